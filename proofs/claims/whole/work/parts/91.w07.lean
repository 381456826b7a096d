theorem d_X12_courtLine_0 : gD cX12_courtLine 0 (.lload_n 1) 1 1 := ⟨by decide +kernel, rfl⟩
theorem d_X12_courtLine_1 : gD cX12_courtLine 1 (.ldc2_w 184) 3 4 := ⟨by decide +kernel, rfl⟩
theorem d_X12_courtLine_4 : gD cX12_courtLine 4 (.lcmp) 1 5 := ⟨by decide +kernel, rfl⟩
theorem d_X12_courtLine_5 : gD cX12_courtLine 5 (.ifCond .ne 7) 3 8 ∧ ((5 : Nat) : Int) + 7 = ((12 : Nat) : Int) := ⟨⟨by decide +kernel, rfl⟩, by decide⟩
theorem d_X12_courtLine_8 : gD cX12_courtLine 8 (.iconst 3) 1 9 := ⟨by decide +kernel, rfl⟩
theorem d_X12_courtLine_9 : decode cX12_courtLine 9 = .ok (.goto 28, 3) ∧ ((9 : Nat) : Int) + 28 = ((37 : Nat) : Int) := ⟨by decide +kernel, by decide⟩
theorem d_X12_courtLine_12 : gD cX12_courtLine 12 (.lload_n 1) 1 13 := ⟨by decide +kernel, rfl⟩
theorem d_X12_courtLine_13 : gD cX12_courtLine 13 (.ldc2_w 186) 3 16 := ⟨by decide +kernel, rfl⟩
theorem d_X12_courtLine_16 : gD cX12_courtLine 16 (.lcmp) 1 17 := ⟨by decide +kernel, rfl⟩
theorem d_X12_courtLine_17 : gD cX12_courtLine 17 (.ifCond .ne 7) 3 20 ∧ ((17 : Nat) : Int) + 7 = ((24 : Nat) : Int) := ⟨⟨by decide +kernel, rfl⟩, by decide⟩
theorem d_X12_courtLine_20 : gD cX12_courtLine 20 (.iconst 4) 1 21 := ⟨by decide +kernel, rfl⟩
theorem d_X12_courtLine_21 : decode cX12_courtLine 21 = .ok (.goto 16, 3) ∧ ((21 : Nat) : Int) + 16 = ((37 : Nat) : Int) := ⟨by decide +kernel, by decide⟩
theorem d_X12_courtLine_24 : gD cX12_courtLine 24 (.lload_n 1) 1 25 := ⟨by decide +kernel, rfl⟩
theorem d_X12_courtLine_25 : gD cX12_courtLine 25 (.ldc2_w 188) 3 28 := ⟨by decide +kernel, rfl⟩
theorem d_X12_courtLine_28 : gD cX12_courtLine 28 (.lcmp) 1 29 := ⟨by decide +kernel, rfl⟩
theorem d_X12_courtLine_29 : gD cX12_courtLine 29 (.ifCond .ne 7) 3 32 ∧ ((29 : Nat) : Int) + 7 = ((36 : Nat) : Int) := ⟨⟨by decide +kernel, rfl⟩, by decide⟩
theorem d_X12_courtLine_32 : gD cX12_courtLine 32 (.iconst 5) 1 33 := ⟨by decide +kernel, rfl⟩
theorem d_X12_courtLine_33 : decode cX12_courtLine 33 = .ok (.goto 4, 3) ∧ ((33 : Nat) : Int) + 4 = ((37 : Nat) : Int) := ⟨by decide +kernel, by decide⟩
theorem d_X12_courtLine_36 : gD cX12_courtLine 36 (.iconst (-1)) 1 37 := ⟨by decide +kernel, rfl⟩
theorem d_X12_courtLine_37 : gD cX12_courtLine 37 (.istore 4) 2 39 := ⟨by decide +kernel, rfl⟩
theorem d_X12_courtLine_39 : gD cX12_courtLine 39 (.iload 4) 2 41 := ⟨by decide +kernel, rfl⟩
theorem d_X12_courtLine_41 : gD cX12_courtLine 41 (.iconst (-1)) 1 42 := ⟨by decide +kernel, rfl⟩
theorem d_X12_courtLine_42 : gD cX12_courtLine 42 (.if_icmp .ne 40) 3 45 ∧ ((42 : Nat) : Int) + 40 = ((82 : Nat) : Int) := ⟨⟨by decide +kernel, rfl⟩, by decide⟩
theorem d_X12_courtLine_45 : gD cX12_courtLine 45 (.lload_n 1) 1 46 := ⟨by decide +kernel, rfl⟩
theorem d_X12_courtLine_46 : gD cX12_courtLine 46 (.ldc2_w 190) 3 49 := ⟨by decide +kernel, rfl⟩
theorem d_X12_courtLine_49 : gD cX12_courtLine 49 (.lcmp) 1 50 := ⟨by decide +kernel, rfl⟩
theorem d_X12_courtLine_50 : gD cX12_courtLine 50 (.ifCond .eq 32) 3 53 ∧ ((50 : Nat) : Int) + 32 = ((82 : Nat) : Int) := ⟨⟨by decide +kernel, rfl⟩, by decide⟩
theorem d_X12_courtLine_53 : gD cX12_courtLine 53 (.lload_n 1) 1 54 := ⟨by decide +kernel, rfl⟩
theorem d_X12_courtLine_54 : gD cX12_courtLine 54 (.ldc2_w 192) 3 57 := ⟨by decide +kernel, rfl⟩
theorem d_X12_courtLine_57 : gD cX12_courtLine 57 (.lcmp) 1 58 := ⟨by decide +kernel, rfl⟩
theorem d_X12_courtLine_58 : gD cX12_courtLine 58 (.ifCond .eq 24) 3 61 ∧ ((58 : Nat) : Int) + 24 = ((82 : Nat) : Int) := ⟨⟨by decide +kernel, rfl⟩, by decide⟩
theorem d_X12_courtLine_61 : gD cX12_courtLine 61 (.lload_n 1) 1 62 := ⟨by decide +kernel, rfl⟩
theorem d_X12_courtLine_62 : gD cX12_courtLine 62 (.ldc2_w 194) 3 65 := ⟨by decide +kernel, rfl⟩
theorem d_X12_courtLine_65 : gD cX12_courtLine 65 (.lcmp) 1 66 := ⟨by decide +kernel, rfl⟩
theorem d_X12_courtLine_66 : gD cX12_courtLine 66 (.ifCond .eq 16) 3 69 ∧ ((66 : Nat) : Int) + 16 = ((82 : Nat) : Int) := ⟨⟨by decide +kernel, rfl⟩, by decide⟩
theorem d_X12_courtLine_69 : gD cX12_courtLine 69 (.lload_n 1) 1 70 := ⟨by decide +kernel, rfl⟩
theorem d_X12_courtLine_70 : gD cX12_courtLine 70 (.ldc2_w 196) 3 73 := ⟨by decide +kernel, rfl⟩
theorem d_X12_courtLine_73 : gD cX12_courtLine 73 (.lcmp) 1 74 := ⟨by decide +kernel, rfl⟩
theorem d_X12_courtLine_74 : gD cX12_courtLine 74 (.ifCond .eq 8) 3 77 ∧ ((74 : Nat) : Int) + 8 = ((82 : Nat) : Int) := ⟨⟨by decide +kernel, rfl⟩, by decide⟩
theorem d_X12_courtLine_77 : gD cX12_courtLine 77 (.aload_n 0) 1 78 := ⟨by decide +kernel, rfl⟩
theorem d_X12_courtLine_78 : gD cX12_courtLine 78 (.invokevirtual 152) 3 81 := ⟨by decide +kernel, rfl⟩
theorem d_X12_courtLine_81 : gD cX12_courtLine 81 (.ireturn) 1 82 := ⟨by decide +kernel, rfl⟩
theorem d_X12_courtLine_82 : gD cX12_courtLine 82 (.lload_n 1) 1 83 := ⟨by decide +kernel, rfl⟩
theorem d_X12_courtLine_83 : gD cX12_courtLine 83 (.ldc2_w 190) 3 86 := ⟨by decide +kernel, rfl⟩
theorem d_X12_courtLine_86 : gD cX12_courtLine 86 (.lcmp) 1 87 := ⟨by decide +kernel, rfl⟩
theorem d_X12_courtLine_87 : gD cX12_courtLine 87 (.ifCond .ne 13) 3 90 ∧ ((87 : Nat) : Int) + 13 = ((100 : Nat) : Int) := ⟨⟨by decide +kernel, rfl⟩, by decide⟩
theorem d_X12_courtLine_90 : gD cX12_courtLine 90 (.aload_n 0) 1 91 := ⟨by decide +kernel, rfl⟩
theorem d_X12_courtLine_91 : gD cX12_courtLine 91 (.iconst 0) 1 92 := ⟨by decide +kernel, rfl⟩
theorem d_X12_courtLine_92 : gD cX12_courtLine 92 (.iconst 4) 1 93 := ⟨by decide +kernel, rfl⟩
theorem d_X12_courtLine_93 : gD cX12_courtLine 93 (.iload_n 3) 1 94 := ⟨by decide +kernel, rfl⟩
theorem d_X12_courtLine_94 : gD cX12_courtLine 94 (.invokevirtual 198) 3 97 := ⟨by decide +kernel, rfl⟩
theorem d_X12_courtLine_97 : decode cX12_courtLine 97 = .ok (.goto 38, 3) ∧ ((97 : Nat) : Int) + 38 = ((135 : Nat) : Int) := ⟨by decide +kernel, by decide⟩
theorem d_X12_courtLine_100 : gD cX12_courtLine 100 (.lload_n 1) 1 101 := ⟨by decide +kernel, rfl⟩
theorem d_X12_courtLine_101 : gD cX12_courtLine 101 (.ldc2_w 192) 3 104 := ⟨by decide +kernel, rfl⟩
theorem d_X12_courtLine_104 : gD cX12_courtLine 104 (.lcmp) 1 105 := ⟨by decide +kernel, rfl⟩
theorem d_X12_courtLine_105 : gD cX12_courtLine 105 (.ifCond .ne 14) 3 108 ∧ ((105 : Nat) : Int) + 14 = ((119 : Nat) : Int) := ⟨⟨by decide +kernel, rfl⟩, by decide⟩
theorem d_X12_courtLine_108 : gD cX12_courtLine 108 (.aload_n 0) 1 109 := ⟨by decide +kernel, rfl⟩
theorem d_X12_courtLine_109 : gD cX12_courtLine 109 (.iconst 1) 1 110 := ⟨by decide +kernel, rfl⟩
theorem d_X12_courtLine_110 : gD cX12_courtLine 110 (.bipush 8) 2 112 := ⟨by decide +kernel, rfl⟩
theorem d_X12_courtLine_112 : gD cX12_courtLine 112 (.iload_n 3) 1 113 := ⟨by decide +kernel, rfl⟩
theorem d_X12_courtLine_113 : gD cX12_courtLine 113 (.invokevirtual 198) 3 116 := ⟨by decide +kernel, rfl⟩
theorem d_X12_courtLine_116 : decode cX12_courtLine 116 = .ok (.goto 19, 3) ∧ ((116 : Nat) : Int) + 19 = ((135 : Nat) : Int) := ⟨by decide +kernel, by decide⟩
theorem d_X12_courtLine_119 : gD cX12_courtLine 119 (.lload_n 1) 1 120 := ⟨by decide +kernel, rfl⟩
theorem d_X12_courtLine_120 : gD cX12_courtLine 120 (.ldc2_w 194) 3 123 := ⟨by decide +kernel, rfl⟩
theorem d_X12_courtLine_123 : gD cX12_courtLine 123 (.lcmp) 1 124 := ⟨by decide +kernel, rfl⟩
theorem d_X12_courtLine_124 : gD cX12_courtLine 124 (.ifCond .ne 11) 3 127 ∧ ((124 : Nat) : Int) + 11 = ((135 : Nat) : Int) := ⟨⟨by decide +kernel, rfl⟩, by decide⟩
theorem d_X12_courtLine_127 : gD cX12_courtLine 127 (.aload_n 0) 1 128 := ⟨by decide +kernel, rfl⟩
theorem d_X12_courtLine_128 : gD cX12_courtLine 128 (.iconst 2) 1 129 := ⟨by decide +kernel, rfl⟩
theorem d_X12_courtLine_129 : gD cX12_courtLine 129 (.bipush 6) 2 131 := ⟨by decide +kernel, rfl⟩
theorem d_X12_courtLine_131 : gD cX12_courtLine 131 (.iload_n 3) 1 132 := ⟨by decide +kernel, rfl⟩
theorem d_X12_courtLine_132 : gD cX12_courtLine 132 (.invokevirtual 198) 3 135 := ⟨by decide +kernel, rfl⟩
theorem d_X12_courtLine_135 : gD cX12_courtLine 135 (.aload_n 0) 1 136 := ⟨by decide +kernel, rfl⟩
theorem d_X12_courtLine_136 : gD cX12_courtLine 136 (.invokevirtual 160) 3 139 := ⟨by decide +kernel, rfl⟩
theorem d_X12_courtLine_139 : gD cX12_courtLine 139 (.lload_n 1) 1 140 := ⟨by decide +kernel, rfl⟩
theorem d_X12_courtLine_140 : gD cX12_courtLine 140 (.ldc2_w 192) 3 143 := ⟨by decide +kernel, rfl⟩
theorem d_X12_courtLine_143 : gD cX12_courtLine 143 (.lcmp) 1 144 := ⟨by decide +kernel, rfl⟩
theorem d_X12_courtLine_144 : gD cX12_courtLine 144 (.ifCond .ne 8) 3 147 ∧ ((144 : Nat) : Int) + 8 = ((152 : Nat) : Int) := ⟨⟨by decide +kernel, rfl⟩, by decide⟩
theorem d_X12_courtLine_147 : gD cX12_courtLine 147 (.aload_n 0) 1 148 := ⟨by decide +kernel, rfl⟩
theorem d_X12_courtLine_148 : gD cX12_courtLine 148 (.invokevirtual 202) 3 151 := ⟨by decide +kernel, rfl⟩
theorem d_X12_courtLine_151 : gD cX12_courtLine 151 (.ireturn) 1 152 := ⟨by decide +kernel, rfl⟩
theorem d_X12_courtLine_152 : gD cX12_courtLine 152 (.lload_n 1) 1 153 := ⟨by decide +kernel, rfl⟩
theorem d_X12_courtLine_153 : gD cX12_courtLine 153 (.ldc2_w 194) 3 156 := ⟨by decide +kernel, rfl⟩
theorem d_X12_courtLine_156 : gD cX12_courtLine 156 (.lcmp) 1 157 := ⟨by decide +kernel, rfl⟩
theorem d_X12_courtLine_157 : gD cX12_courtLine 157 (.ifCond .ne 8) 3 160 ∧ ((157 : Nat) : Int) + 8 = ((165 : Nat) : Int) := ⟨⟨by decide +kernel, rfl⟩, by decide⟩
theorem d_X12_courtLine_160 : gD cX12_courtLine 160 (.aload_n 0) 1 161 := ⟨by decide +kernel, rfl⟩
theorem d_X12_courtLine_161 : gD cX12_courtLine 161 (.invokevirtual 205) 3 164 := ⟨by decide +kernel, rfl⟩
theorem d_X12_courtLine_164 : gD cX12_courtLine 164 (.ireturn) 1 165 := ⟨by decide +kernel, rfl⟩
theorem d_X12_courtLine_165 : gD cX12_courtLine 165 (.lload_n 1) 1 166 := ⟨by decide +kernel, rfl⟩
theorem d_X12_courtLine_166 : gD cX12_courtLine 166 (.ldc2_w 190) 3 169 := ⟨by decide +kernel, rfl⟩
theorem d_X12_courtLine_169 : gD cX12_courtLine 169 (.lcmp) 1 170 := ⟨by decide +kernel, rfl⟩
theorem d_X12_courtLine_170 : gD cX12_courtLine 170 (.ifCond .ne 38) 3 173 ∧ ((170 : Nat) : Int) + 38 = ((208 : Nat) : Int) := ⟨⟨by decide +kernel, rfl⟩, by decide⟩
theorem d_X12_courtLine_173 : gD cX12_courtLine 173 (.aload_n 0) 1 174 := ⟨by decide +kernel, rfl⟩
theorem d_X12_courtLine_174 : gD cX12_courtLine 174 (.iconst 0) 1 175 := ⟨by decide +kernel, rfl⟩
theorem d_X12_courtLine_175 : gD cX12_courtLine 175 (.iconst 1) 1 176 := ⟨by decide +kernel, rfl⟩
theorem d_X12_courtLine_176 : gD cX12_courtLine 176 (.bipush 9) 2 178 := ⟨by decide +kernel, rfl⟩
theorem d_X12_courtLine_178 : gD cX12_courtLine 178 (.invokevirtual 167) 3 181 := ⟨by decide +kernel, rfl⟩
theorem d_X12_courtLine_181 : gD cX12_courtLine 181 (.ifCond .eq 14) 3 184 ∧ ((181 : Nat) : Int) + 14 = ((195 : Nat) : Int) := ⟨⟨by decide +kernel, rfl⟩, by decide⟩
theorem d_X12_courtLine_184 : gD cX12_courtLine 184 (.aload_n 0) 1 185 := ⟨by decide +kernel, rfl⟩
theorem d_X12_courtLine_185 : gD cX12_courtLine 185 (.iconst 1) 1 186 := ⟨by decide +kernel, rfl⟩
theorem d_X12_courtLine_186 : gD cX12_courtLine 186 (.iconst 0) 1 187 := ⟨by decide +kernel, rfl⟩
theorem d_X12_courtLine_187 : gD cX12_courtLine 187 (.bipush 9) 2 189 := ⟨by decide +kernel, rfl⟩
theorem d_X12_courtLine_189 : gD cX12_courtLine 189 (.invokevirtual 167) 3 192 := ⟨by decide +kernel, rfl⟩
theorem d_X12_courtLine_192 : gD cX12_courtLine 192 (.ifCond .ne 5) 3 195 ∧ ((192 : Nat) : Int) + 5 = ((197 : Nat) : Int) := ⟨⟨by decide +kernel, rfl⟩, by decide⟩
theorem d_X12_courtLine_195 : gD cX12_courtLine 195 (.iconst 0) 1 196 := ⟨by decide +kernel, rfl⟩
theorem d_X12_courtLine_196 : gD cX12_courtLine 196 (.ireturn) 1 197 := ⟨by decide +kernel, rfl⟩
theorem d_X12_courtLine_197 : gD cX12_courtLine 197 (.aload_n 0) 1 198 := ⟨by decide +kernel, rfl⟩
theorem d_X12_courtLine_198 : gD cX12_courtLine 198 (.iconst 0) 1 199 := ⟨by decide +kernel, rfl⟩
theorem d_X12_courtLine_199 : gD cX12_courtLine 199 (.bipush 9) 2 201 := ⟨by decide +kernel, rfl⟩
theorem d_X12_courtLine_201 : gD cX12_courtLine 201 (.iconst 2) 1 202 := ⟨by decide +kernel, rfl⟩
theorem d_X12_courtLine_202 : gD cX12_courtLine 202 (.iconst 4) 1 203 := ⟨by decide +kernel, rfl⟩
theorem d_X12_courtLine_203 : gD cX12_courtLine 203 (.invokevirtual 177) 3 206 := ⟨by decide +kernel, rfl⟩
theorem d_X12_courtLine_206 : gD cX12_courtLine 206 (.iconst 1) 1 207 := ⟨by decide +kernel, rfl⟩
theorem d_X12_courtLine_207 : gD cX12_courtLine 207 (.ireturn) 1 208 := ⟨by decide +kernel, rfl⟩
theorem d_X12_courtLine_208 : gD cX12_courtLine 208 (.lload_n 1) 1 209 := ⟨by decide +kernel, rfl⟩
theorem d_X12_courtLine_209 : gD cX12_courtLine 209 (.ldc2_w 196) 3 212 := ⟨by decide +kernel, rfl⟩
theorem d_X12_courtLine_212 : gD cX12_courtLine 212 (.lcmp) 1 213 := ⟨by decide +kernel, rfl⟩
theorem d_X12_courtLine_213 : gD cX12_courtLine 213 (.ifCond .ne 72) 3 216 ∧ ((213 : Nat) : Int) + 72 = ((285 : Nat) : Int) := ⟨⟨by decide +kernel, rfl⟩, by decide⟩
theorem d_X12_courtLine_216 : gD cX12_courtLine 216 (.aload_n 0) 1 217 := ⟨by decide +kernel, rfl⟩
theorem d_X12_courtLine_217 : gD cX12_courtLine 217 (.iconst 0) 1 218 := ⟨by decide +kernel, rfl⟩
theorem d_X12_courtLine_218 : gD cX12_courtLine 218 (.iconst 0) 1 219 := ⟨by decide +kernel, rfl⟩
theorem d_X12_courtLine_219 : gD cX12_courtLine 219 (.bipush 9) 2 221 := ⟨by decide +kernel, rfl⟩
theorem d_X12_courtLine_221 : gD cX12_courtLine 221 (.invokevirtual 167) 3 224 := ⟨by decide +kernel, rfl⟩
theorem d_X12_courtLine_224 : gD cX12_courtLine 224 (.ifCond .eq 25) 3 227 ∧ ((224 : Nat) : Int) + 25 = ((249 : Nat) : Int) := ⟨⟨by decide +kernel, rfl⟩, by decide⟩
theorem d_X12_courtLine_227 : gD cX12_courtLine 227 (.aload_n 0) 1 228 := ⟨by decide +kernel, rfl⟩
theorem d_X12_courtLine_228 : gD cX12_courtLine 228 (.iconst 1) 1 229 := ⟨by decide +kernel, rfl⟩
theorem d_X12_courtLine_229 : gD cX12_courtLine 229 (.iconst 0) 1 230 := ⟨by decide +kernel, rfl⟩
theorem d_X12_courtLine_230 : gD cX12_courtLine 230 (.bipush 9) 2 232 := ⟨by decide +kernel, rfl⟩
theorem d_X12_courtLine_232 : gD cX12_courtLine 232 (.invokevirtual 167) 3 235 := ⟨by decide +kernel, rfl⟩
theorem d_X12_courtLine_235 : gD cX12_courtLine 235 (.ifCond .eq 14) 3 238 ∧ ((235 : Nat) : Int) + 14 = ((249 : Nat) : Int) := ⟨⟨by decide +kernel, rfl⟩, by decide⟩
theorem d_X12_courtLine_238 : gD cX12_courtLine 238 (.aload_n 0) 1 239 := ⟨by decide +kernel, rfl⟩
theorem d_X12_courtLine_239 : gD cX12_courtLine 239 (.iconst 2) 1 240 := ⟨by decide +kernel, rfl⟩
theorem d_X12_courtLine_240 : gD cX12_courtLine 240 (.iconst 0) 1 241 := ⟨by decide +kernel, rfl⟩
theorem d_X12_courtLine_241 : gD cX12_courtLine 241 (.bipush 9) 2 243 := ⟨by decide +kernel, rfl⟩
theorem d_X12_courtLine_243 : gD cX12_courtLine 243 (.invokevirtual 167) 3 246 := ⟨by decide +kernel, rfl⟩
theorem d_X12_courtLine_246 : gD cX12_courtLine 246 (.ifCond .ne 5) 3 249 ∧ ((246 : Nat) : Int) + 5 = ((251 : Nat) : Int) := ⟨⟨by decide +kernel, rfl⟩, by decide⟩
theorem d_X12_courtLine_249 : gD cX12_courtLine 249 (.iconst 0) 1 250 := ⟨by decide +kernel, rfl⟩
theorem d_X12_courtLine_250 : gD cX12_courtLine 250 (.ireturn) 1 251 := ⟨by decide +kernel, rfl⟩
theorem d_X12_courtLine_251 : gD cX12_courtLine 251 (.iconst 0) 1 252 := ⟨by decide +kernel, rfl⟩
theorem d_X12_courtLine_252 : gD cX12_courtLine 252 (.istore 5) 2 254 := ⟨by decide +kernel, rfl⟩
theorem d_X12_courtLine_254 : gD cX12_courtLine 254 (.iload 5) 2 256 := ⟨by decide +kernel, rfl⟩
theorem d_X12_courtLine_256 : gD cX12_courtLine 256 (.iconst 3) 1 257 := ⟨by decide +kernel, rfl⟩
theorem d_X12_courtLine_257 : gD cX12_courtLine 257 (.if_icmp .ge 26) 3 260 ∧ ((257 : Nat) : Int) + 26 = ((283 : Nat) : Int) := ⟨⟨by decide +kernel, rfl⟩, by decide⟩
theorem d_X12_courtLine_260 : gD cX12_courtLine 260 (.aload_n 0) 1 261 := ⟨by decide +kernel, rfl⟩
theorem d_X12_courtLine_261 : gD cX12_courtLine 261 (.getfield 44) 3 264 := ⟨by decide +kernel, rfl⟩
theorem d_X12_courtLine_264 : gD cX12_courtLine 264 (.bipush 6) 2 266 := ⟨by decide +kernel, rfl⟩
theorem d_X12_courtLine_266 : gD cX12_courtLine 266 (.iload 5) 2 268 := ⟨by decide +kernel, rfl⟩
theorem d_X12_courtLine_268 : gD cX12_courtLine 268 (.iadd) 1 269 := ⟨by decide +kernel, rfl⟩
theorem d_X12_courtLine_269 : gD cX12_courtLine 269 (.aload_n 0) 1 270 := ⟨by decide +kernel, rfl⟩
theorem d_X12_courtLine_270 : gD cX12_courtLine 270 (.getfield 47) 3 273 := ⟨by decide +kernel, rfl⟩
theorem d_X12_courtLine_273 : gD cX12_courtLine 273 (.iload 5) 2 275 := ⟨by decide +kernel, rfl⟩
theorem d_X12_courtLine_275 : gD cX12_courtLine 275 (.iaload) 1 276 := ⟨by decide +kernel, rfl⟩
theorem d_X12_courtLine_276 : gD cX12_courtLine 276 (.iastore) 1 277 := ⟨by decide +kernel, rfl⟩
theorem d_X12_courtLine_277 : gD cX12_courtLine 277 (.iinc 5 1) 3 280 := ⟨by decide +kernel, rfl⟩
theorem d_X12_courtLine_280 : decode cX12_courtLine 280 = .ok (.goto (-26), 3) ∧ ((280 : Nat) : Int) + (-26) = ((254 : Nat) : Int) := ⟨by decide +kernel, by decide⟩
theorem d_X12_courtLine_283 : gD cX12_courtLine 283 (.iconst 1) 1 284 := ⟨by decide +kernel, rfl⟩
theorem d_X12_courtLine_284 : gD cX12_courtLine 284 (.ireturn) 1 285 := ⟨by decide +kernel, rfl⟩
theorem d_X12_courtLine_285 : gD cX12_courtLine 285 (.aload_n 0) 1 286 := ⟨by decide +kernel, rfl⟩
theorem d_X12_courtLine_286 : gD cX12_courtLine 286 (.iconst 0) 1 287 := ⟨by decide +kernel, rfl⟩
theorem d_X12_courtLine_287 : gD cX12_courtLine 287 (.iload 4) 2 289 := ⟨by decide +kernel, rfl⟩
theorem d_X12_courtLine_289 : gD cX12_courtLine 289 (.iconst 4) 1 290 := ⟨by decide +kernel, rfl⟩
theorem d_X12_courtLine_290 : gD cX12_courtLine 290 (.if_icmp .ne 7) 3 293 ∧ ((290 : Nat) : Int) + 7 = ((297 : Nat) : Int) := ⟨⟨by decide +kernel, rfl⟩, by decide⟩
theorem d_X12_courtLine_293 : gD cX12_courtLine 293 (.iconst 1) 1 294 := ⟨by decide +kernel, rfl⟩
theorem d_X12_courtLine_294 : decode cX12_courtLine 294 = .ok (.goto 4, 3) ∧ ((294 : Nat) : Int) + 4 = ((298 : Nat) : Int) := ⟨by decide +kernel, by decide⟩
theorem d_X12_courtLine_297 : gD cX12_courtLine 297 (.iconst 0) 1 298 := ⟨by decide +kernel, rfl⟩
theorem d_X12_courtLine_298 : gD cX12_courtLine 298 (.iload 4) 2 300 := ⟨by decide +kernel, rfl⟩
theorem d_X12_courtLine_300 : gD cX12_courtLine 300 (.iconst 5) 1 301 := ⟨by decide +kernel, rfl⟩
theorem d_X12_courtLine_301 : gD cX12_courtLine 301 (.if_icmp .ne 8) 3 304 ∧ ((301 : Nat) : Int) + 8 = ((309 : Nat) : Int) := ⟨⟨by decide +kernel, rfl⟩, by decide⟩
theorem d_X12_courtLine_304 : gD cX12_courtLine 304 (.bipush 40) 2 306 := ⟨by decide +kernel, rfl⟩
theorem d_X12_courtLine_306 : decode cX12_courtLine 306 = .ok (.goto 5, 3) ∧ ((306 : Nat) : Int) + 5 = ((311 : Nat) : Int) := ⟨by decide +kernel, by decide⟩
theorem d_X12_courtLine_309 : gD cX12_courtLine 309 (.bipush 9) 2 311 := ⟨by decide +kernel, rfl⟩
theorem d_X12_courtLine_311 : gD cX12_courtLine 311 (.invokevirtual 167) 3 314 := ⟨by decide +kernel, rfl⟩
theorem d_X12_courtLine_314 : gD cX12_courtLine 314 (.ifCond .ne 5) 3 317 ∧ ((314 : Nat) : Int) + 5 = ((319 : Nat) : Int) := ⟨⟨by decide +kernel, rfl⟩, by decide⟩
theorem d_X12_courtLine_317 : gD cX12_courtLine 317 (.iconst 0) 1 318 := ⟨by decide +kernel, rfl⟩
theorem d_X12_courtLine_318 : gD cX12_courtLine 318 (.ireturn) 1 319 := ⟨by decide +kernel, rfl⟩
theorem d_X12_courtLine_319 : gD cX12_courtLine 319 (.aload_n 0) 1 320 := ⟨by decide +kernel, rfl⟩
theorem d_X12_courtLine_320 : gD cX12_courtLine 320 (.getfield 44) 3 323 := ⟨by decide +kernel, rfl⟩
theorem d_X12_courtLine_323 : gD cX12_courtLine 323 (.iload 4) 2 325 := ⟨by decide +kernel, rfl⟩
theorem d_X12_courtLine_325 : gD cX12_courtLine 325 (.aload_n 0) 1 326 := ⟨by decide +kernel, rfl⟩
theorem d_X12_courtLine_326 : gD cX12_courtLine 326 (.getfield 47) 3 329 := ⟨by decide +kernel, rfl⟩
theorem d_X12_courtLine_329 : gD cX12_courtLine 329 (.iconst 0) 1 330 := ⟨by decide +kernel, rfl⟩
theorem d_X12_courtLine_330 : gD cX12_courtLine 330 (.iaload) 1 331 := ⟨by decide +kernel, rfl⟩
theorem d_X12_courtLine_331 : gD cX12_courtLine 331 (.iastore) 1 332 := ⟨by decide +kernel, rfl⟩
theorem d_X12_courtLine_332 : gD cX12_courtLine 332 (.iconst 1) 1 333 := ⟨by decide +kernel, rfl⟩
theorem d_X12_courtLine_333 : gD cX12_courtLine 333 (.ireturn) 1 334 := ⟨by decide +kernel, rfl⟩
abbrev rm_X12_courtLine : Room := { frames := 5, cells := 0, slots := 0, locals := 112 }
set_option maxRecDepth 20000 in
theorem w_X12_courtLine_254 {Γ : GC} {E : GE} (hO : gOk Γ E cX12_courtLine RX12 6 rm_X12_courtLine (some .boolean) "courtLine") (o : Nat) : ∀ (n : Nat) (x5 : Int32) (S : GS), Go Γ E (gBsI Γ E) 6 (0, 0) 254 S [(0, vA (some o)), (5, vI x5)] [] (f_X12_courtLine_254 o n x5 S) := by
  intro n
  induction n with
  | zero =>
    intro x5 S
    exact g_none
  | succ n ih =>
    intro x5 S
    rw [f_X12_courtLine_254]
    refine g_iload hO d_X12_courtLine_254 1 rfl ?_
    refine g_iconst hO 3 d_X12_courtLine_256 (by decide) ?_
    refine g_ic_ge (tgt := 283) hO d_X12_courtLine_257.1 d_X12_courtLine_257.2 (fun _ => ?_) (fun _ => ?_)
    · skip
      refine g_iconst hO 1 d_X12_courtLine_283 (by decide) ?_
      exact g_ret hO rfl rfl ⟨Nat.le_of_ble_eq_true rfl, Nat.le_of_ble_eq_true rfl⟩ rfl rfl d_X12_courtLine_284.1
    · skip
      refine g_aload_n hO d_X12_courtLine_260 (by rfl) 0 rfl ?_
      refine h_getR hO cl_X12 21 rfl wf_X12_44 d_X12_courtLine_261 (fun v1 => ?_)
      refine g_bipush hO 6 d_X12_courtLine_264 (by decide) ?_
      refine g_iload hO d_X12_courtLine_266 1 rfl ?_
      refine g_iadd hO d_X12_courtLine_268 ?_
      refine g_aload_n hO d_X12_courtLine_269 (by rfl) 0 rfl ?_
      refine h_getR hO cl_X12 22 rfl wf_X12_47 d_X12_courtLine_270 (fun v2 => ?_)
      refine g_iload hO d_X12_courtLine_273 1 rfl ?_
      refine h_iald hO d_X12_courtLine_275 (fun v3 => ?_)
      refine h_iast hO d_X12_courtLine_276 (fun S4 => ?_)
      refine g_iinc (lv' := [(5, vI (x5 + 1)), (0, vA (some o))]) hO 1 d_X12_courtLine_277 (by decide) 1 rfl (by decide) rfl ?_
      refine g_goto (tgt := 254) hO d_X12_courtLine_280.1 d_X12_courtLine_280.2 ?_
      exact g_sub [1, 0] rfl (ih _ _)
set_option maxRecDepth 20000 in
theorem w_X12_courtLine_311 {Γ : GC} {E : GE} (hO : gOk Γ E cX12_courtLine RX12 6 rm_X12_courtLine (some .boolean) "courtLine") (o : Nat) (x4 : Int32) (y0 : Option Nat) (y1 : Int32) (y2 : Int32) (y3 : Int32) (S : GS) : Go Γ E (gBsI Γ E) 6 (0, 0) 311 S [(0, vA (some o)), (4, vI x4)] [vI y3, vI y2, vI y1, vA y0] (f_X12_courtLine_311 o x4 y0 y1 y2 y3 S) := by
  unfold f_X12_courtLine_311
  refine k_virtIs hO cl_X12 mm_X12_take lkV_X12_167 ⟨⟨Nat.le_of_ble_eq_true rfl, Nat.le_of_ble_eq_true rfl⟩, Nat.le_of_ble_eq_true rfl, Nat.le_of_ble_eq_true rfl⟩ (kn' := (0, 0)) rfl (As := [vI y1, vI y2, vI y3]) rfl (Nat.le_of_ble_eq_true rfl) (fun o' _ => t_X12_take Γ.2.1 E o' y1 y2 y3 S) d_X12_courtLine_311 rfl (fun v1 S2 => ?_)
  refine g_if_ne (tgt := 319) hO d_X12_courtLine_314.1 d_X12_courtLine_314.2 (fun _ => ?_) (fun _ => ?_)
  · skip
    refine g_iconst hO 0 d_X12_courtLine_317 (by decide) ?_
    exact g_ret hO rfl rfl ⟨Nat.le_of_ble_eq_true rfl, Nat.le_of_ble_eq_true rfl⟩ rfl rfl d_X12_courtLine_318.1
  · skip
    refine g_aload_n hO d_X12_courtLine_319 (by rfl) 0 rfl ?_
    refine h_getR hO cl_X12 21 rfl wf_X12_44 d_X12_courtLine_320 (fun v3 => ?_)
    refine g_iload hO d_X12_courtLine_323 1 rfl ?_
    refine g_aload_n hO d_X12_courtLine_325 (by rfl) 0 rfl ?_
    refine h_getR hO cl_X12 22 rfl wf_X12_47 d_X12_courtLine_326 (fun v4 => ?_)
    refine g_iconst hO 0 d_X12_courtLine_329 (by decide) ?_
    refine h_iald hO d_X12_courtLine_330 (fun v5 => ?_)
    refine h_iast hO d_X12_courtLine_331 (fun S6 => ?_)
    refine g_iconst hO 1 d_X12_courtLine_332 (by decide) ?_
    exact g_ret hO rfl rfl ⟨Nat.le_of_ble_eq_true rfl, Nat.le_of_ble_eq_true rfl⟩ rfl rfl d_X12_courtLine_333.1
set_option maxRecDepth 20000 in
theorem w_X12_courtLine_298 {Γ : GC} {E : GE} (hO : gOk Γ E cX12_courtLine RX12 6 rm_X12_courtLine (some .boolean) "courtLine") (o : Nat) (x4 : Int32) (y0 : Option Nat) (y1 : Int32) (y2 : Int32) (S : GS) : Go Γ E (gBsI Γ E) 6 (0, 0) 298 S [(0, vA (some o)), (4, vI x4)] [vI y2, vI y1, vA y0] (f_X12_courtLine_298 o x4 y0 y1 y2 S) := by
  unfold f_X12_courtLine_298
  refine g_iload hO d_X12_courtLine_298 1 rfl ?_
  refine g_iconst hO 5 d_X12_courtLine_300 (by decide) ?_
  refine g_ic_ne (tgt := 309) hO d_X12_courtLine_301.1 d_X12_courtLine_301.2 (fun _ => ?_) (fun _ => ?_)
  · skip
    refine g_bipush hO 40 d_X12_courtLine_304 (by decide) ?_
    refine g_goto (tgt := 311) hO d_X12_courtLine_306.1 d_X12_courtLine_306.2 ?_
    exact g_sub [0, 1] rfl (w_X12_courtLine_311 hO o _ _ _ _ _ _)
  · skip
    refine g_bipush hO 9 d_X12_courtLine_309 (by decide) ?_
    exact g_sub [0, 1] rfl (w_X12_courtLine_311 hO o _ _ _ _ _ _)
set_option maxRecDepth 20000 in
theorem w_X12_courtLine_135 {Γ : GC} {E : GE} (hO : gOk Γ E cX12_courtLine RX12 6 rm_X12_courtLine (some .boolean) "courtLine") (o : Nat) (x1 : Int64) (x4 : Int32) (S : GS) : Go Γ E (gBsI Γ E) 6 (0, 0) 135 S [(0, vA (some o)), (1, vJ x1), (4, vI x4)] [] (f_X12_courtLine_135 o x1 x4 S) := by
  unfold f_X12_courtLine_135
  refine g_aload_n hO d_X12_courtLine_135 (by rfl) 0 rfl ?_
  refine k_virtVs hO cl_X12 mm_X12_token lkV_X12_160 ⟨⟨Nat.le_of_ble_eq_true rfl, Nat.le_of_ble_eq_true rfl⟩, Nat.le_of_ble_eq_true rfl, Nat.le_of_ble_eq_true rfl⟩ (kn' := (0, 0)) rfl (As := []) rfl (Nat.le_of_ble_eq_true rfl) (fun o' _ => t_X12_token Γ.2.1 E o' S) d_X12_courtLine_136 rfl (fun S2 => ?_)
  refine g_lload_n hO d_X12_courtLine_139 (by rfl) 1 rfl ?_
  refine g_ldc2 hO 1818322041 d_X12_courtLine_140 wk_X12_192 ?_
  refine g_lcmp hO d_X12_courtLine_143 ?_
  refine g_if_ne (tgt := 152) hO d_X12_courtLine_144.1 d_X12_courtLine_144.2 (fun _ => ?_) (fun _ => ?_)
  · skip
    refine g_aload_n hO d_X12_courtLine_147 (by rfl) 0 rfl ?_
    refine k_virtIs hO cl_X12 mm_X12_ladyLine lkV_X12_202 ⟨⟨Nat.le_of_ble_eq_true rfl, Nat.le_of_ble_eq_true rfl⟩, Nat.le_of_ble_eq_true rfl, Nat.le_of_ble_eq_true rfl⟩ (kn' := (0, 0)) rfl (As := []) rfl (Nat.le_of_ble_eq_true rfl) (fun o' _ => t_X12_ladyLine Γ.2.1 E o' S2) d_X12_courtLine_148 rfl (fun v3 S4 => ?_)
    exact g_zret hO rfl ⟨Nat.le_of_ble_eq_true rfl, Nat.le_of_ble_eq_true rfl⟩ rfl rfl d_X12_courtLine_151.1
  · skip
    refine g_lload_n hO d_X12_courtLine_152 (by rfl) 1 rfl ?_
    refine g_ldc2 hO 123636798219634 d_X12_courtLine_153 wk_X12_194 ?_
    refine g_lcmp hO d_X12_courtLine_156 ?_
    refine g_if_ne (tgt := 165) hO d_X12_courtLine_157.1 d_X12_courtLine_157.2 (fun _ => ?_) (fun _ => ?_)
    · skip
      refine g_aload_n hO d_X12_courtLine_160 (by rfl) 0 rfl ?_
      refine k_virtIs hO cl_X12 mm_X12_properLine lkV_X12_205 ⟨⟨Nat.le_of_ble_eq_true rfl, Nat.le_of_ble_eq_true rfl⟩, Nat.le_of_ble_eq_true rfl, Nat.le_of_ble_eq_true rfl⟩ (kn' := (0, 0)) rfl (As := []) rfl (Nat.le_of_ble_eq_true rfl) (fun o' _ => t_X12_properLine Γ.2.1 E o' S2) d_X12_courtLine_161 rfl (fun v5 S6 => ?_)
      exact g_zret hO rfl ⟨Nat.le_of_ble_eq_true rfl, Nat.le_of_ble_eq_true rfl⟩ rfl rfl d_X12_courtLine_164.1
    · skip
      refine g_lload_n hO d_X12_courtLine_165 (by rfl) 1 rfl ?_
      refine g_ldc2 hO 1919905645 d_X12_courtLine_166 wk_X12_190 ?_
      refine g_lcmp hO d_X12_courtLine_169 ?_
      refine g_if_ne (tgt := 208) hO d_X12_courtLine_170.1 d_X12_courtLine_170.2 (fun _ => ?_) (fun _ => ?_)
      · skip
        refine g_aload_n hO d_X12_courtLine_173 (by rfl) 0 rfl ?_
        refine g_iconst hO 0 d_X12_courtLine_174 (by decide) ?_
        refine g_iconst hO 1 d_X12_courtLine_175 (by decide) ?_
        refine g_bipush hO 9 d_X12_courtLine_176 (by decide) ?_
        refine k_virtIs hO cl_X12 mm_X12_take lkV_X12_167 ⟨⟨Nat.le_of_ble_eq_true rfl, Nat.le_of_ble_eq_true rfl⟩, Nat.le_of_ble_eq_true rfl, Nat.le_of_ble_eq_true rfl⟩ (kn' := (0, 0)) rfl (As := [vI 0, vI 1, vI 9]) rfl (Nat.le_of_ble_eq_true rfl) (fun o' _ => t_X12_take Γ.2.1 E o' 0 1 9 S2) d_X12_courtLine_178 rfl (fun v7 S8 => ?_)
        refine g_if_eq (tgt := 195) hO d_X12_courtLine_181.1 d_X12_courtLine_181.2 (fun _ => ?_) (fun _ => ?_)
        · skip
          refine g_iconst hO 0 d_X12_courtLine_195 (by decide) ?_
          exact g_ret hO rfl rfl ⟨Nat.le_of_ble_eq_true rfl, Nat.le_of_ble_eq_true rfl⟩ rfl rfl d_X12_courtLine_196.1
        · skip
          refine g_aload_n hO d_X12_courtLine_184 (by rfl) 0 rfl ?_
          refine g_iconst hO 1 d_X12_courtLine_185 (by decide) ?_
          refine g_iconst hO 0 d_X12_courtLine_186 (by decide) ?_
          refine g_bipush hO 9 d_X12_courtLine_187 (by decide) ?_
          refine k_virtIs hO cl_X12 mm_X12_take lkV_X12_167 ⟨⟨Nat.le_of_ble_eq_true rfl, Nat.le_of_ble_eq_true rfl⟩, Nat.le_of_ble_eq_true rfl, Nat.le_of_ble_eq_true rfl⟩ (kn' := (0, 0)) rfl (As := [vI 1, vI 0, vI 9]) rfl (Nat.le_of_ble_eq_true rfl) (fun o' _ => t_X12_take Γ.2.1 E o' 1 0 9 S8) d_X12_courtLine_189 rfl (fun v9 S10 => ?_)
          refine g_if_ne (tgt := 197) hO d_X12_courtLine_192.1 d_X12_courtLine_192.2 (fun _ => ?_) (fun _ => ?_)
          · skip
            refine g_iconst hO 0 d_X12_courtLine_195 (by decide) ?_
            exact g_ret hO rfl rfl ⟨Nat.le_of_ble_eq_true rfl, Nat.le_of_ble_eq_true rfl⟩ rfl rfl d_X12_courtLine_196.1
          · skip
            refine g_aload_n hO d_X12_courtLine_197 (by rfl) 0 rfl ?_
            refine g_iconst hO 0 d_X12_courtLine_198 (by decide) ?_
            refine g_bipush hO 9 d_X12_courtLine_199 (by decide) ?_
            refine g_iconst hO 2 d_X12_courtLine_201 (by decide) ?_
            refine g_iconst hO 4 d_X12_courtLine_202 (by decide) ?_
            refine k_virtVs hO cl_X12 mm_X12_keep lkV_X12_177 ⟨⟨Nat.le_of_ble_eq_true rfl, Nat.le_of_ble_eq_true rfl⟩, Nat.le_of_ble_eq_true rfl, Nat.le_of_ble_eq_true rfl⟩ (kn' := (0, 0)) rfl (As := [vI 0, vI 9, vI 2, vI 4]) rfl (Nat.le_of_ble_eq_true rfl) (fun o' _ => t_X12_keep Γ.2.1 E o' 0 9 2 4 S10) d_X12_courtLine_203 rfl (fun S12 => ?_)
            refine g_iconst hO 1 d_X12_courtLine_206 (by decide) ?_
            exact g_ret hO rfl rfl ⟨Nat.le_of_ble_eq_true rfl, Nat.le_of_ble_eq_true rfl⟩ rfl rfl d_X12_courtLine_207.1
      · skip
        refine g_lload_n hO d_X12_courtLine_208 (by rfl) 1 rfl ?_
        refine g_ldc2 hO 2003398244 d_X12_courtLine_209 wk_X12_196 ?_
        refine g_lcmp hO d_X12_courtLine_212 ?_
        refine g_if_ne (tgt := 285) hO d_X12_courtLine_213.1 d_X12_courtLine_213.2 (fun _ => ?_) (fun _ => ?_)
        · skip
          refine g_aload_n hO d_X12_courtLine_216 (by rfl) 0 rfl ?_
          refine g_iconst hO 0 d_X12_courtLine_217 (by decide) ?_
          refine g_iconst hO 0 d_X12_courtLine_218 (by decide) ?_
          refine g_bipush hO 9 d_X12_courtLine_219 (by decide) ?_
          refine k_virtIs hO cl_X12 mm_X12_take lkV_X12_167 ⟨⟨Nat.le_of_ble_eq_true rfl, Nat.le_of_ble_eq_true rfl⟩, Nat.le_of_ble_eq_true rfl, Nat.le_of_ble_eq_true rfl⟩ (kn' := (0, 0)) rfl (As := [vI 0, vI 0, vI 9]) rfl (Nat.le_of_ble_eq_true rfl) (fun o' _ => t_X12_take Γ.2.1 E o' 0 0 9 S2) d_X12_courtLine_221 rfl (fun v13 S14 => ?_)
          refine g_if_eq (tgt := 249) hO d_X12_courtLine_224.1 d_X12_courtLine_224.2 (fun _ => ?_) (fun _ => ?_)
          · skip
            refine g_iconst hO 0 d_X12_courtLine_249 (by decide) ?_
            exact g_ret hO rfl rfl ⟨Nat.le_of_ble_eq_true rfl, Nat.le_of_ble_eq_true rfl⟩ rfl rfl d_X12_courtLine_250.1
          · skip
            refine g_aload_n hO d_X12_courtLine_227 (by rfl) 0 rfl ?_
            refine g_iconst hO 1 d_X12_courtLine_228 (by decide) ?_
            refine g_iconst hO 0 d_X12_courtLine_229 (by decide) ?_
            refine g_bipush hO 9 d_X12_courtLine_230 (by decide) ?_
            refine k_virtIs hO cl_X12 mm_X12_take lkV_X12_167 ⟨⟨Nat.le_of_ble_eq_true rfl, Nat.le_of_ble_eq_true rfl⟩, Nat.le_of_ble_eq_true rfl, Nat.le_of_ble_eq_true rfl⟩ (kn' := (0, 0)) rfl (As := [vI 1, vI 0, vI 9]) rfl (Nat.le_of_ble_eq_true rfl) (fun o' _ => t_X12_take Γ.2.1 E o' 1 0 9 S14) d_X12_courtLine_232 rfl (fun v15 S16 => ?_)
            refine g_if_eq (tgt := 249) hO d_X12_courtLine_235.1 d_X12_courtLine_235.2 (fun _ => ?_) (fun _ => ?_)
            · skip
              refine g_iconst hO 0 d_X12_courtLine_249 (by decide) ?_
              exact g_ret hO rfl rfl ⟨Nat.le_of_ble_eq_true rfl, Nat.le_of_ble_eq_true rfl⟩ rfl rfl d_X12_courtLine_250.1
            · skip
              refine g_aload_n hO d_X12_courtLine_238 (by rfl) 0 rfl ?_
              refine g_iconst hO 2 d_X12_courtLine_239 (by decide) ?_
              refine g_iconst hO 0 d_X12_courtLine_240 (by decide) ?_
              refine g_bipush hO 9 d_X12_courtLine_241 (by decide) ?_
              refine k_virtIs hO cl_X12 mm_X12_take lkV_X12_167 ⟨⟨Nat.le_of_ble_eq_true rfl, Nat.le_of_ble_eq_true rfl⟩, Nat.le_of_ble_eq_true rfl, Nat.le_of_ble_eq_true rfl⟩ (kn' := (0, 0)) rfl (As := [vI 2, vI 0, vI 9]) rfl (Nat.le_of_ble_eq_true rfl) (fun o' _ => t_X12_take Γ.2.1 E o' 2 0 9 S16) d_X12_courtLine_243 rfl (fun v17 S18 => ?_)
              refine g_if_ne (tgt := 251) hO d_X12_courtLine_246.1 d_X12_courtLine_246.2 (fun _ => ?_) (fun _ => ?_)
              · skip
                refine g_iconst hO 0 d_X12_courtLine_249 (by decide) ?_
                exact g_ret hO rfl rfl ⟨Nat.le_of_ble_eq_true rfl, Nat.le_of_ble_eq_true rfl⟩ rfl rfl d_X12_courtLine_250.1
              · skip
                refine g_iconst hO 0 d_X12_courtLine_251 (by decide) ?_
                refine g_istore (lv' := [(5, vI 0), (0, vA (some o)), (1, vJ x1), (4, vI x4)]) hO d_X12_courtLine_252 (by decide) rfl ?_
                exact g_sub [1, 0] rfl (w_X12_courtLine_254 hO o _ _ _)
        · skip
          refine g_aload_n hO d_X12_courtLine_285 (by rfl) 0 rfl ?_
          refine g_iconst hO 0 d_X12_courtLine_286 (by decide) ?_
          refine g_iload hO d_X12_courtLine_287 2 rfl ?_
          refine g_iconst hO 4 d_X12_courtLine_289 (by decide) ?_
          refine g_ic_ne (tgt := 297) hO d_X12_courtLine_290.1 d_X12_courtLine_290.2 (fun _ => ?_) (fun _ => ?_)
          · skip
            refine g_iconst hO 1 d_X12_courtLine_293 (by decide) ?_
            refine g_goto (tgt := 298) hO d_X12_courtLine_294.1 d_X12_courtLine_294.2 ?_
            exact g_sub [0, 2] rfl (w_X12_courtLine_298 hO o _ _ _ _ _)
          · skip
            refine g_iconst hO 0 d_X12_courtLine_297 (by decide) ?_
            exact g_sub [0, 2] rfl (w_X12_courtLine_298 hO o _ _ _ _ _)
set_option maxRecDepth 20000 in
theorem w_X12_courtLine_82 {Γ : GC} {E : GE} (hO : gOk Γ E cX12_courtLine RX12 6 rm_X12_courtLine (some .boolean) "courtLine") (o : Nat) (x1 : Int64) (x3 : Int32) (x4 : Int32) (S : GS) : Go Γ E (gBsI Γ E) 6 (0, 0) 82 S [(0, vA (some o)), (1, vJ x1), (3, vI x3), (4, vI x4)] [] (f_X12_courtLine_82 o x1 x3 x4 S) := by
  unfold f_X12_courtLine_82
  refine g_lload_n hO d_X12_courtLine_82 (by rfl) 1 rfl ?_
  refine g_ldc2 hO 1919905645 d_X12_courtLine_83 wk_X12_190 ?_
  refine g_lcmp hO d_X12_courtLine_86 ?_
  refine g_if_ne (tgt := 100) hO d_X12_courtLine_87.1 d_X12_courtLine_87.2 (fun _ => ?_) (fun _ => ?_)
  · skip
    refine g_aload_n hO d_X12_courtLine_90 (by rfl) 0 rfl ?_
    refine g_iconst hO 0 d_X12_courtLine_91 (by decide) ?_
    refine g_iconst hO 4 d_X12_courtLine_92 (by decide) ?_
    refine g_iload_n hO d_X12_courtLine_93 (by rfl) 2 rfl ?_
    refine k_virtVs hO cl_X12 mm_X12_full lkV_X12_198 ⟨⟨Nat.le_of_ble_eq_true rfl, Nat.le_of_ble_eq_true rfl⟩, Nat.le_of_ble_eq_true rfl, Nat.le_of_ble_eq_true rfl⟩ (kn' := (0, 0)) rfl (As := [vI 0, vI 4, vI x3]) rfl (Nat.le_of_ble_eq_true rfl) (fun o' _ => t_X12_full Γ.2.1 E o' 0 4 x3 S) d_X12_courtLine_94 rfl (fun S2 => ?_)
    refine g_goto (tgt := 135) hO d_X12_courtLine_97.1 d_X12_courtLine_97.2 ?_
    exact g_sub [0, 1, 3] rfl (w_X12_courtLine_135 hO o _ _ _)
  · skip
    refine g_lload_n hO d_X12_courtLine_100 (by rfl) 1 rfl ?_
    refine g_ldc2 hO 1818322041 d_X12_courtLine_101 wk_X12_192 ?_
    refine g_lcmp hO d_X12_courtLine_104 ?_
    refine g_if_ne (tgt := 119) hO d_X12_courtLine_105.1 d_X12_courtLine_105.2 (fun _ => ?_) (fun _ => ?_)
    · skip
      refine g_aload_n hO d_X12_courtLine_108 (by rfl) 0 rfl ?_
      refine g_iconst hO 1 d_X12_courtLine_109 (by decide) ?_
      refine g_bipush hO 8 d_X12_courtLine_110 (by decide) ?_
      refine g_iload_n hO d_X12_courtLine_112 (by rfl) 2 rfl ?_
      refine k_virtVs hO cl_X12 mm_X12_full lkV_X12_198 ⟨⟨Nat.le_of_ble_eq_true rfl, Nat.le_of_ble_eq_true rfl⟩, Nat.le_of_ble_eq_true rfl, Nat.le_of_ble_eq_true rfl⟩ (kn' := (0, 0)) rfl (As := [vI 1, vI 8, vI x3]) rfl (Nat.le_of_ble_eq_true rfl) (fun o' _ => t_X12_full Γ.2.1 E o' 1 8 x3 S) d_X12_courtLine_113 rfl (fun S4 => ?_)
      refine g_goto (tgt := 135) hO d_X12_courtLine_116.1 d_X12_courtLine_116.2 ?_
      exact g_sub [0, 1, 3] rfl (w_X12_courtLine_135 hO o _ _ _)
    · skip
      refine g_lload_n hO d_X12_courtLine_119 (by rfl) 1 rfl ?_
      refine g_ldc2 hO 123636798219634 d_X12_courtLine_120 wk_X12_194 ?_
      refine g_lcmp hO d_X12_courtLine_123 ?_
      refine g_if_ne (tgt := 135) hO d_X12_courtLine_124.1 d_X12_courtLine_124.2 (fun _ => ?_) (fun _ => ?_)
      · skip
        refine g_aload_n hO d_X12_courtLine_127 (by rfl) 0 rfl ?_
        refine g_iconst hO 2 d_X12_courtLine_128 (by decide) ?_
        refine g_bipush hO 6 d_X12_courtLine_129 (by decide) ?_
        refine g_iload_n hO d_X12_courtLine_131 (by rfl) 2 rfl ?_
        refine k_virtVs hO cl_X12 mm_X12_full lkV_X12_198 ⟨⟨Nat.le_of_ble_eq_true rfl, Nat.le_of_ble_eq_true rfl⟩, Nat.le_of_ble_eq_true rfl, Nat.le_of_ble_eq_true rfl⟩ (kn' := (0, 0)) rfl (As := [vI 2, vI 6, vI x3]) rfl (Nat.le_of_ble_eq_true rfl) (fun o' _ => t_X12_full Γ.2.1 E o' 2 6 x3 S) d_X12_courtLine_132 rfl (fun S6 => ?_)
        exact g_sub [0, 1, 3] rfl (w_X12_courtLine_135 hO o _ _ _)
      · skip
        exact g_sub [0, 1, 3] rfl (w_X12_courtLine_135 hO o _ _ _)
set_option maxRecDepth 20000 in
theorem w_X12_courtLine_37 {Γ : GC} {E : GE} (hO : gOk Γ E cX12_courtLine RX12 6 rm_X12_courtLine (some .boolean) "courtLine") (o : Nat) (x1 : Int64) (x3 : Int32) (y0 : Int32) (S : GS) : Go Γ E (gBsI Γ E) 6 (0, 0) 37 S [(0, vA (some o)), (1, vJ x1), (3, vI x3)] [vI y0] (f_X12_courtLine_37 o x1 x3 y0 S) := by
  unfold f_X12_courtLine_37
  refine g_istore (lv' := [(4, vI y0), (0, vA (some o)), (1, vJ x1), (3, vI x3)]) hO d_X12_courtLine_37 (by decide) rfl ?_
  refine g_iload hO d_X12_courtLine_39 0 rfl ?_
  refine g_iconst hO (-1) d_X12_courtLine_41 (by decide) ?_
  refine g_ic_ne (tgt := 82) hO d_X12_courtLine_42.1 d_X12_courtLine_42.2 (fun _ => ?_) (fun _ => ?_)
  · skip
    refine g_lload_n hO d_X12_courtLine_45 (by rfl) 2 rfl ?_
    refine g_ldc2 hO 1919905645 d_X12_courtLine_46 wk_X12_190 ?_
    refine g_lcmp hO d_X12_courtLine_49 ?_
    refine g_if_eq (tgt := 82) hO d_X12_courtLine_50.1 d_X12_courtLine_50.2 (fun _ => ?_) (fun _ => ?_)
    · skip
      exact g_sub [1, 2, 3, 0] rfl (w_X12_courtLine_82 hO o _ _ _ _)
    · skip
      refine g_lload_n hO d_X12_courtLine_53 (by rfl) 2 rfl ?_
      refine g_ldc2 hO 1818322041 d_X12_courtLine_54 wk_X12_192 ?_
      refine g_lcmp hO d_X12_courtLine_57 ?_
      refine g_if_eq (tgt := 82) hO d_X12_courtLine_58.1 d_X12_courtLine_58.2 (fun _ => ?_) (fun _ => ?_)
      · skip
        exact g_sub [1, 2, 3, 0] rfl (w_X12_courtLine_82 hO o _ _ _ _)
      · skip
        refine g_lload_n hO d_X12_courtLine_61 (by rfl) 2 rfl ?_
        refine g_ldc2 hO 123636798219634 d_X12_courtLine_62 wk_X12_194 ?_
        refine g_lcmp hO d_X12_courtLine_65 ?_
        refine g_if_eq (tgt := 82) hO d_X12_courtLine_66.1 d_X12_courtLine_66.2 (fun _ => ?_) (fun _ => ?_)
        · skip
          exact g_sub [1, 2, 3, 0] rfl (w_X12_courtLine_82 hO o _ _ _ _)
        · skip
          refine g_lload_n hO d_X12_courtLine_69 (by rfl) 2 rfl ?_
          refine g_ldc2 hO 2003398244 d_X12_courtLine_70 wk_X12_196 ?_
          refine g_lcmp hO d_X12_courtLine_73 ?_
          refine g_if_eq (tgt := 82) hO d_X12_courtLine_74.1 d_X12_courtLine_74.2 (fun _ => ?_) (fun _ => ?_)
          · skip
            exact g_sub [1, 2, 3, 0] rfl (w_X12_courtLine_82 hO o _ _ _ _)
          · skip
            refine g_aload_n hO d_X12_courtLine_77 (by rfl) 1 rfl ?_
            refine k_virtIs hO cl_X12 mm_X12_fails lkV_X12_152 ⟨⟨Nat.le_of_ble_eq_true rfl, Nat.le_of_ble_eq_true rfl⟩, Nat.le_of_ble_eq_true rfl, Nat.le_of_ble_eq_true rfl⟩ (kn' := (0, 0)) rfl (As := []) rfl (Nat.le_of_ble_eq_true rfl) (fun o' _ => t_X12_fails Γ.2.1 E o' S) d_X12_courtLine_78 rfl (fun v1 S2 => ?_)
            exact g_zret hO rfl ⟨Nat.le_of_ble_eq_true rfl, Nat.le_of_ble_eq_true rfl⟩ rfl rfl d_X12_courtLine_81.1
  · skip
    exact g_sub [1, 2, 3, 0] rfl (w_X12_courtLine_82 hO o _ _ _ _)
set_option maxRecDepth 20000 in
theorem w_X12_courtLine {Γ : GC} {E : GE} (hO : gOk Γ E cX12_courtLine RX12 6 rm_X12_courtLine (some .boolean) "courtLine") (o : Nat) (x1 : Int64) (x3 : Int32) (S : GS) : Go Γ E (gBsI Γ E) 6 (0, 0) 0 S [(0, vA (some o)), (1, vJ x1), (3, vI x3)] [] (f_X12_courtLine o x1 x3 S) := by
  unfold f_X12_courtLine
  refine g_lload_n hO d_X12_courtLine_0 (by rfl) 1 rfl ?_
  refine g_ldc2 hO 495739560811 d_X12_courtLine_1 wk_X12_184 ?_
  refine g_lcmp hO d_X12_courtLine_4 ?_
  refine g_if_ne (tgt := 12) hO d_X12_courtLine_5.1 d_X12_courtLine_5.2 (fun _ => ?_) (fun _ => ?_)
  · skip
    refine g_iconst hO 3 d_X12_courtLine_8 (by decide) ?_
    refine g_goto (tgt := 37) hO d_X12_courtLine_9.1 d_X12_courtLine_9.2 ?_
    exact g_sub [0, 1, 2] rfl (w_X12_courtLine_37 hO o _ _ _ _)
  · skip
    refine g_lload_n hO d_X12_courtLine_12 (by rfl) 1 rfl ?_
    refine g_ldc2 hO 1919251316 d_X12_courtLine_13 wk_X12_186 ?_
    refine g_lcmp hO d_X12_courtLine_16 ?_
    refine g_if_ne (tgt := 24) hO d_X12_courtLine_17.1 d_X12_courtLine_17.2 (fun _ => ?_) (fun _ => ?_)
    · skip
      refine g_iconst hO 4 d_X12_courtLine_20 (by decide) ?_
      refine g_goto (tgt := 37) hO d_X12_courtLine_21.1 d_X12_courtLine_21.2 ?_
      exact g_sub [0, 1, 2] rfl (w_X12_courtLine_37 hO o _ _ _ _)
    · skip
      refine g_lload_n hO d_X12_courtLine_24 (by rfl) 1 rfl ?_
      refine g_ldc2 hO 444199957363 d_X12_courtLine_25 wk_X12_188 ?_
      refine g_lcmp hO d_X12_courtLine_28 ?_
      refine g_if_ne (tgt := 36) hO d_X12_courtLine_29.1 d_X12_courtLine_29.2 (fun _ => ?_) (fun _ => ?_)
      · skip
        refine g_iconst hO 5 d_X12_courtLine_32 (by decide) ?_
        refine g_goto (tgt := 37) hO d_X12_courtLine_33.1 d_X12_courtLine_33.2 ?_
        exact g_sub [0, 1, 2] rfl (w_X12_courtLine_37 hO o _ _ _ _)
      · skip
        refine g_iconst hO (-1) d_X12_courtLine_36 (by decide) ?_
        exact g_sub [0, 1, 2] rfl (w_X12_courtLine_37 hO o _ _ _ _)
theorem t_X12_courtLine (l : Launch) (E : GE) (o : Nat) (x1 : Int64) (x3 : Int32) (S : GS) : ∀ a, f_X12_courtLine o x1 x3 S = some a → Ct l E yX12_courtLine cX12_courtLine 6 (some .boolean) rm_X12_courtLine [vA (some o), vJ x1, vI x3] S (some (vI a.1)) a.2 :=
  Ct_of (val := fun (b : Int32 × GS) => some (vI b.1)) (nxt := fun (b : Int32 × GS) => b.2) (by decide) (Nat.le_of_ble_eq_true rfl) (fun Γ hl hO => w_X12_courtLine hO o x1 x3 S)
theorem d_X12_deedBy_0 : gD cX12_deedBy 0 (.lload_n 0) 1 1 := ⟨by decide +kernel, rfl⟩
theorem d_X12_deedBy_1 : gD cX12_deedBy 1 (.ldc2_w 188) 3 4 := ⟨by decide +kernel, rfl⟩
theorem d_X12_deedBy_4 : gD cX12_deedBy 4 (.lcmp) 1 5 := ⟨by decide +kernel, rfl⟩
theorem d_X12_deedBy_5 : gD cX12_deedBy 5 (.ifCond .ne 7) 3 8 ∧ ((5 : Nat) : Int) + 7 = ((12 : Nat) : Int) := ⟨⟨by decide +kernel, rfl⟩, by decide⟩
theorem d_X12_deedBy_8 : gD cX12_deedBy 8 (.iconst 0) 1 9 := ⟨by decide +kernel, rfl⟩
theorem d_X12_deedBy_9 : decode cX12_deedBy 9 = .ok (.goto 103, 3) ∧ ((9 : Nat) : Int) + 103 = ((112 : Nat) : Int) := ⟨by decide +kernel, by decide⟩
theorem d_X12_deedBy_12 : gD cX12_deedBy 12 (.lload_n 0) 1 13 := ⟨by decide +kernel, rfl⟩
theorem d_X12_deedBy_13 : gD cX12_deedBy 13 (.ldc2_w 208) 3 16 := ⟨by decide +kernel, rfl⟩
theorem d_X12_deedBy_16 : gD cX12_deedBy 16 (.lcmp) 1 17 := ⟨by decide +kernel, rfl⟩
theorem d_X12_deedBy_17 : gD cX12_deedBy 17 (.ifCond .ne 7) 3 20 ∧ ((17 : Nat) : Int) + 7 = ((24 : Nat) : Int) := ⟨⟨by decide +kernel, rfl⟩, by decide⟩
theorem d_X12_deedBy_20 : gD cX12_deedBy 20 (.iconst 1) 1 21 := ⟨by decide +kernel, rfl⟩
theorem d_X12_deedBy_21 : decode cX12_deedBy 21 = .ok (.goto 91, 3) ∧ ((21 : Nat) : Int) + 91 = ((112 : Nat) : Int) := ⟨by decide +kernel, by decide⟩
theorem d_X12_deedBy_24 : gD cX12_deedBy 24 (.lload_n 0) 1 25 := ⟨by decide +kernel, rfl⟩
theorem d_X12_deedBy_25 : gD cX12_deedBy 25 (.ldc2_w 210) 3 28 := ⟨by decide +kernel, rfl⟩
theorem d_X12_deedBy_28 : gD cX12_deedBy 28 (.lcmp) 1 29 := ⟨by decide +kernel, rfl⟩
theorem d_X12_deedBy_29 : gD cX12_deedBy 29 (.ifCond .ne 7) 3 32 ∧ ((29 : Nat) : Int) + 7 = ((36 : Nat) : Int) := ⟨⟨by decide +kernel, rfl⟩, by decide⟩
theorem d_X12_deedBy_32 : gD cX12_deedBy 32 (.iconst 2) 1 33 := ⟨by decide +kernel, rfl⟩
theorem d_X12_deedBy_33 : decode cX12_deedBy 33 = .ok (.goto 79, 3) ∧ ((33 : Nat) : Int) + 79 = ((112 : Nat) : Int) := ⟨by decide +kernel, by decide⟩
theorem d_X12_deedBy_36 : gD cX12_deedBy 36 (.lload_n 0) 1 37 := ⟨by decide +kernel, rfl⟩
theorem d_X12_deedBy_37 : gD cX12_deedBy 37 (.ldc2_w 212) 3 40 := ⟨by decide +kernel, rfl⟩
theorem d_X12_deedBy_40 : gD cX12_deedBy 40 (.lcmp) 1 41 := ⟨by decide +kernel, rfl⟩
theorem d_X12_deedBy_41 : gD cX12_deedBy 41 (.ifCond .ne 7) 3 44 ∧ ((41 : Nat) : Int) + 7 = ((48 : Nat) : Int) := ⟨⟨by decide +kernel, rfl⟩, by decide⟩
theorem d_X12_deedBy_44 : gD cX12_deedBy 44 (.iconst 3) 1 45 := ⟨by decide +kernel, rfl⟩
theorem d_X12_deedBy_45 : decode cX12_deedBy 45 = .ok (.goto 67, 3) ∧ ((45 : Nat) : Int) + 67 = ((112 : Nat) : Int) := ⟨by decide +kernel, by decide⟩
theorem d_X12_deedBy_48 : gD cX12_deedBy 48 (.lload_n 0) 1 49 := ⟨by decide +kernel, rfl⟩
theorem d_X12_deedBy_49 : gD cX12_deedBy 49 (.ldc2_w 214) 3 52 := ⟨by decide +kernel, rfl⟩
theorem d_X12_deedBy_52 : gD cX12_deedBy 52 (.lcmp) 1 53 := ⟨by decide +kernel, rfl⟩
theorem d_X12_deedBy_53 : gD cX12_deedBy 53 (.ifCond .ne 7) 3 56 ∧ ((53 : Nat) : Int) + 7 = ((60 : Nat) : Int) := ⟨⟨by decide +kernel, rfl⟩, by decide⟩
theorem d_X12_deedBy_56 : gD cX12_deedBy 56 (.iconst 4) 1 57 := ⟨by decide +kernel, rfl⟩
theorem d_X12_deedBy_57 : decode cX12_deedBy 57 = .ok (.goto 55, 3) ∧ ((57 : Nat) : Int) + 55 = ((112 : Nat) : Int) := ⟨by decide +kernel, by decide⟩
theorem d_X12_deedBy_60 : gD cX12_deedBy 60 (.lload_n 0) 1 61 := ⟨by decide +kernel, rfl⟩
theorem d_X12_deedBy_61 : gD cX12_deedBy 61 (.ldc2_w 216) 3 64 := ⟨by decide +kernel, rfl⟩
theorem d_X12_deedBy_64 : gD cX12_deedBy 64 (.lcmp) 1 65 := ⟨by decide +kernel, rfl⟩
theorem d_X12_deedBy_65 : gD cX12_deedBy 65 (.ifCond .ne 7) 3 68 ∧ ((65 : Nat) : Int) + 7 = ((72 : Nat) : Int) := ⟨⟨by decide +kernel, rfl⟩, by decide⟩
theorem d_X12_deedBy_68 : gD cX12_deedBy 68 (.iconst 5) 1 69 := ⟨by decide +kernel, rfl⟩
theorem d_X12_deedBy_69 : decode cX12_deedBy 69 = .ok (.goto 43, 3) ∧ ((69 : Nat) : Int) + 43 = ((112 : Nat) : Int) := ⟨by decide +kernel, by decide⟩
theorem d_X12_deedBy_72 : gD cX12_deedBy 72 (.lload_n 0) 1 73 := ⟨by decide +kernel, rfl⟩
theorem d_X12_deedBy_73 : gD cX12_deedBy 73 (.ldc2_w 218) 3 76 := ⟨by decide +kernel, rfl⟩
theorem d_X12_deedBy_76 : gD cX12_deedBy 76 (.lcmp) 1 77 := ⟨by decide +kernel, rfl⟩
theorem d_X12_deedBy_77 : gD cX12_deedBy 77 (.ifCond .ne 8) 3 80 ∧ ((77 : Nat) : Int) + 8 = ((85 : Nat) : Int) := ⟨⟨by decide +kernel, rfl⟩, by decide⟩
theorem d_X12_deedBy_80 : gD cX12_deedBy 80 (.bipush 6) 2 82 := ⟨by decide +kernel, rfl⟩
theorem d_X12_deedBy_82 : decode cX12_deedBy 82 = .ok (.goto 30, 3) ∧ ((82 : Nat) : Int) + 30 = ((112 : Nat) : Int) := ⟨by decide +kernel, by decide⟩
theorem d_X12_deedBy_85 : gD cX12_deedBy 85 (.lload_n 0) 1 86 := ⟨by decide +kernel, rfl⟩
theorem d_X12_deedBy_86 : gD cX12_deedBy 86 (.ldc2_w 220) 3 89 := ⟨by decide +kernel, rfl⟩
theorem d_X12_deedBy_89 : gD cX12_deedBy 89 (.lcmp) 1 90 := ⟨by decide +kernel, rfl⟩
theorem d_X12_deedBy_90 : gD cX12_deedBy 90 (.ifCond .ne 8) 3 93 ∧ ((90 : Nat) : Int) + 8 = ((98 : Nat) : Int) := ⟨⟨by decide +kernel, rfl⟩, by decide⟩
theorem d_X12_deedBy_93 : gD cX12_deedBy 93 (.bipush 7) 2 95 := ⟨by decide +kernel, rfl⟩
theorem d_X12_deedBy_95 : decode cX12_deedBy 95 = .ok (.goto 17, 3) ∧ ((95 : Nat) : Int) + 17 = ((112 : Nat) : Int) := ⟨by decide +kernel, by decide⟩
theorem d_X12_deedBy_98 : gD cX12_deedBy 98 (.lload_n 0) 1 99 := ⟨by decide +kernel, rfl⟩
theorem d_X12_deedBy_99 : gD cX12_deedBy 99 (.ldc2_w 222) 3 102 := ⟨by decide +kernel, rfl⟩
theorem d_X12_deedBy_102 : gD cX12_deedBy 102 (.lcmp) 1 103 := ⟨by decide +kernel, rfl⟩
theorem d_X12_deedBy_103 : gD cX12_deedBy 103 (.ifCond .ne 8) 3 106 ∧ ((103 : Nat) : Int) + 8 = ((111 : Nat) : Int) := ⟨⟨by decide +kernel, rfl⟩, by decide⟩
theorem d_X12_deedBy_106 : gD cX12_deedBy 106 (.bipush 8) 2 108 := ⟨by decide +kernel, rfl⟩
theorem d_X12_deedBy_108 : decode cX12_deedBy 108 = .ok (.goto 4, 3) ∧ ((108 : Nat) : Int) + 4 = ((112 : Nat) : Int) := ⟨by decide +kernel, by decide⟩
theorem d_X12_deedBy_111 : gD cX12_deedBy 111 (.iconst (-1)) 1 112 := ⟨by decide +kernel, rfl⟩
theorem d_X12_deedBy_112 : gD cX12_deedBy 112 (.ireturn) 1 113 := ⟨by decide +kernel, rfl⟩
abbrev rm_X12_deedBy : Room := { frames := 0, cells := 0, slots := 0, locals := 0 }
set_option maxRecDepth 20000 in
theorem w_X12_deedBy {Γ : GC} {E : GE} (hO : gOk Γ E cX12_deedBy RX12 2 rm_X12_deedBy (some .int) "deedBy") (x0 : Int64) (S : GS) : Go Γ E (gBpI Γ E S) 2 (0, 0) 0 S [(0, vJ x0)] [] (f_X12_deedBy x0 S) := by
  unfold f_X12_deedBy
  refine g_lload_n hO d_X12_deedBy_0 (by rfl) 0 rfl ?_
  refine g_ldc2 hO 444199957363 d_X12_deedBy_1 wk_X12_188 ?_
  refine g_lcmp hO d_X12_deedBy_4 ?_
  refine g_if_ne (tgt := 12) hO d_X12_deedBy_5.1 d_X12_deedBy_5.2 (fun _ => ?_) (fun _ => ?_)
  · skip
    refine g_iconst hO 0 d_X12_deedBy_8 (by decide) ?_
    refine g_goto (tgt := 112) hO d_X12_deedBy_9.1 d_X12_deedBy_9.2 ?_
    exact g_ret hO rfl rfl ⟨Nat.le_of_ble_eq_true rfl, Nat.le_of_ble_eq_true rfl⟩ rfl rfl d_X12_deedBy_112.1
  · skip
    refine g_lload_n hO d_X12_deedBy_12 (by rfl) 0 rfl ?_
    refine g_ldc2 hO 1869636974 d_X12_deedBy_13 wk_X12_208 ?_
    refine g_lcmp hO d_X12_deedBy_16 ?_
    refine g_if_ne (tgt := 24) hO d_X12_deedBy_17.1 d_X12_deedBy_17.2 (fun _ => ?_) (fun _ => ?_)
    · skip
      refine g_iconst hO 1 d_X12_deedBy_20 (by decide) ?_
      refine g_goto (tgt := 112) hO d_X12_deedBy_21.1 d_X12_deedBy_21.2 ?_
      exact g_ret hO rfl rfl ⟨Nat.le_of_ble_eq_true rfl, Nat.le_of_ble_eq_true rfl⟩ rfl rfl d_X12_deedBy_112.1
    · skip
      refine g_lload_n hO d_X12_deedBy_24 (by rfl) 0 rfl ?_
      refine g_ldc2 hO 1936225652 d_X12_deedBy_25 wk_X12_210 ?_
      refine g_lcmp hO d_X12_deedBy_28 ?_
      refine g_if_ne (tgt := 36) hO d_X12_deedBy_29.1 d_X12_deedBy_29.2 (fun _ => ?_) (fun _ => ?_)
      · skip
        refine g_iconst hO 2 d_X12_deedBy_32 (by decide) ?_
        refine g_goto (tgt := 112) hO d_X12_deedBy_33.1 d_X12_deedBy_33.2 ?_
        exact g_ret hO rfl rfl ⟨Nat.le_of_ble_eq_true rfl, Nat.le_of_ble_eq_true rfl⟩ rfl rfl d_X12_deedBy_112.1
      · skip
        refine g_lload_n hO d_X12_deedBy_36 (by rfl) 0 rfl ?_
        refine g_ldc2 hO 1936287592 d_X12_deedBy_37 wk_X12_212 ?_
        refine g_lcmp hO d_X12_deedBy_40 ?_
        refine g_if_ne (tgt := 48) hO d_X12_deedBy_41.1 d_X12_deedBy_41.2 (fun _ => ?_) (fun _ => ?_)
        · skip
          refine g_iconst hO 3 d_X12_deedBy_44 (by decide) ?_
          refine g_goto (tgt := 112) hO d_X12_deedBy_45.1 d_X12_deedBy_45.2 ?_
          exact g_ret hO rfl rfl ⟨Nat.le_of_ble_eq_true rfl, Nat.le_of_ble_eq_true rfl⟩ rfl rfl d_X12_deedBy_112.1
        · skip
          refine g_lload_n hO d_X12_deedBy_48 (by rfl) 0 rfl ?_
          refine g_ldc2 hO 7629157 d_X12_deedBy_49 wk_X12_214 ?_
          refine g_lcmp hO d_X12_deedBy_52 ?_
          refine g_if_ne (tgt := 60) hO d_X12_deedBy_53.1 d_X12_deedBy_53.2 (fun _ => ?_) (fun _ => ?_)
          · skip
            refine g_iconst hO 4 d_X12_deedBy_56 (by decide) ?_
            refine g_goto (tgt := 112) hO d_X12_deedBy_57.1 d_X12_deedBy_57.2 ?_
            exact g_ret hO rfl rfl ⟨Nat.le_of_ble_eq_true rfl, Nat.le_of_ble_eq_true rfl⟩ rfl rfl d_X12_deedBy_112.1
          · skip
            refine g_lload_n hO d_X12_deedBy_60 (by rfl) 0 rfl ?_
            refine g_ldc2 hO 119225867003246 d_X12_deedBy_61 wk_X12_216 ?_
            refine g_lcmp hO d_X12_deedBy_64 ?_
            refine g_if_ne (tgt := 72) hO d_X12_deedBy_65.1 d_X12_deedBy_65.2 (fun _ => ?_) (fun _ => ?_)
            · skip
              refine g_iconst hO 5 d_X12_deedBy_68 (by decide) ?_
              refine g_goto (tgt := 112) hO d_X12_deedBy_69.1 d_X12_deedBy_69.2 ?_
              exact g_ret hO rfl rfl ⟨Nat.le_of_ble_eq_true rfl, Nat.le_of_ble_eq_true rfl⟩ rfl rfl d_X12_deedBy_112.1
            · skip
              refine g_lload_n hO d_X12_deedBy_72 (by rfl) 0 rfl ?_
              refine g_ldc2 hO 26479 d_X12_deedBy_73 wk_X12_218 ?_
              refine g_lcmp hO d_X12_deedBy_76 ?_
              refine g_if_ne (tgt := 85) hO d_X12_deedBy_77.1 d_X12_deedBy_77.2 (fun _ => ?_) (fun _ => ?_)
              · skip
                refine g_bipush hO 6 d_X12_deedBy_80 (by decide) ?_
                refine g_goto (tgt := 112) hO d_X12_deedBy_82.1 d_X12_deedBy_82.2 ?_
                exact g_ret hO rfl rfl ⟨Nat.le_of_ble_eq_true rfl, Nat.le_of_ble_eq_true rfl⟩ rfl rfl d_X12_deedBy_112.1
              · skip
                refine g_lload_n hO d_X12_deedBy_85 (by rfl) 0 rfl ?_
                refine g_ldc2 hO 500084863860 d_X12_deedBy_86 wk_X12_220 ?_
                refine g_lcmp hO d_X12_deedBy_89 ?_
                refine g_if_ne (tgt := 98) hO d_X12_deedBy_90.1 d_X12_deedBy_90.2 (fun _ => ?_) (fun _ => ?_)
                · skip
                  refine g_bipush hO 7 d_X12_deedBy_93 (by decide) ?_
                  refine g_goto (tgt := 112) hO d_X12_deedBy_95.1 d_X12_deedBy_95.2 ?_
                  exact g_ret hO rfl rfl ⟨Nat.le_of_ble_eq_true rfl, Nat.le_of_ble_eq_true rfl⟩ rfl rfl d_X12_deedBy_112.1
                · skip
                  refine g_lload_n hO d_X12_deedBy_98 (by rfl) 0 rfl ?_
                  refine g_ldc2 hO 120299592184933 d_X12_deedBy_99 wk_X12_222 ?_
                  refine g_lcmp hO d_X12_deedBy_102 ?_
                  refine g_if_ne (tgt := 111) hO d_X12_deedBy_103.1 d_X12_deedBy_103.2 (fun _ => ?_) (fun _ => ?_)
                  · skip
                    refine g_bipush hO 8 d_X12_deedBy_106 (by decide) ?_
                    refine g_goto (tgt := 112) hO d_X12_deedBy_108.1 d_X12_deedBy_108.2 ?_
                    exact g_ret hO rfl rfl ⟨Nat.le_of_ble_eq_true rfl, Nat.le_of_ble_eq_true rfl⟩ rfl rfl d_X12_deedBy_112.1
                  · skip
                    refine g_iconst hO (-1) d_X12_deedBy_111 (by decide) ?_
                    exact g_ret hO rfl rfl ⟨Nat.le_of_ble_eq_true rfl, Nat.le_of_ble_eq_true rfl⟩ rfl rfl d_X12_deedBy_112.1
theorem t_X12_deedBy (l : Launch) (E : GE) (x0 : Int64) (S : GS) : ∀ a, f_X12_deedBy x0 S = some a → Ct l E yX12_deedBy cX12_deedBy 2 (some .int) rm_X12_deedBy [vJ x0] S (some (vI a)) S :=
  Ct_of (val := fun b => some (vI b)) (nxt := fun _ => S) (by decide) (Nat.le_of_ble_eq_true rfl) (fun Γ hl hO => w_X12_deedBy hO x0 S)
theorem d_X12_ballNumbers_0 : gD cX12_ballNumbers 0 (.iload_n 1) 1 1 := ⟨by decide +kernel, rfl⟩
theorem d_X12_ballNumbers_1 : decode cX12_ballNumbers 1 = .ok (.tableswitch 124 0 6 #[43, 52, 52, 60, 69, 69, 97], 43) ∧ ((1 : Nat) : Int) + 124 = ((125 : Nat) : Int) := ⟨by decide +kernel, by decide⟩
theorem d_X12_ballNumbers_44 : gD cX12_ballNumbers 44 (.aload_n 0) 1 45 := ⟨by decide +kernel, rfl⟩
theorem d_X12_ballNumbers_45 : gD cX12_ballNumbers 45 (.iconst 1) 1 46 := ⟨by decide +kernel, rfl⟩
theorem d_X12_ballNumbers_46 : gD cX12_ballNumbers 46 (.iconst 0) 1 47 := ⟨by decide +kernel, rfl⟩
theorem d_X12_ballNumbers_47 : gD cX12_ballNumbers 47 (.bipush 40) 2 49 := ⟨by decide +kernel, rfl⟩
theorem d_X12_ballNumbers_49 : gD cX12_ballNumbers 49 (.invokevirtual 167) 3 52 := ⟨by decide +kernel, rfl⟩
theorem d_X12_ballNumbers_52 : gD cX12_ballNumbers 52 (.ireturn) 1 53 := ⟨by decide +kernel, rfl⟩
theorem d_X12_ballNumbers_53 : gD cX12_ballNumbers 53 (.aload_n 0) 1 54 := ⟨by decide +kernel, rfl⟩
theorem d_X12_ballNumbers_54 : gD cX12_ballNumbers 54 (.iconst 1) 1 55 := ⟨by decide +kernel, rfl⟩
theorem d_X12_ballNumbers_55 : gD cX12_ballNumbers 55 (.iconst 0) 1 56 := ⟨by decide +kernel, rfl⟩
theorem d_X12_ballNumbers_56 : gD cX12_ballNumbers 56 (.iconst 3) 1 57 := ⟨by decide +kernel, rfl⟩
theorem d_X12_ballNumbers_57 : gD cX12_ballNumbers 57 (.invokevirtual 167) 3 60 := ⟨by decide +kernel, rfl⟩
theorem d_X12_ballNumbers_60 : gD cX12_ballNumbers 60 (.ireturn) 1 61 := ⟨by decide +kernel, rfl⟩
theorem d_X12_ballNumbers_61 : gD cX12_ballNumbers 61 (.aload_n 0) 1 62 := ⟨by decide +kernel, rfl⟩
theorem d_X12_ballNumbers_62 : gD cX12_ballNumbers 62 (.iconst 1) 1 63 := ⟨by decide +kernel, rfl⟩
theorem d_X12_ballNumbers_63 : gD cX12_ballNumbers 63 (.iconst 0) 1 64 := ⟨by decide +kernel, rfl⟩
theorem d_X12_ballNumbers_64 : gD cX12_ballNumbers 64 (.bipush 7) 2 66 := ⟨by decide +kernel, rfl⟩
theorem d_X12_ballNumbers_66 : gD cX12_ballNumbers 66 (.invokevirtual 167) 3 69 := ⟨by decide +kernel, rfl⟩
theorem d_X12_ballNumbers_69 : gD cX12_ballNumbers 69 (.ireturn) 1 70 := ⟨by decide +kernel, rfl⟩
theorem d_X12_ballNumbers_70 : gD cX12_ballNumbers 70 (.aload_n 0) 1 71 := ⟨by decide +kernel, rfl⟩
theorem d_X12_ballNumbers_71 : gD cX12_ballNumbers 71 (.iconst 1) 1 72 := ⟨by decide +kernel, rfl⟩
theorem d_X12_ballNumbers_72 : gD cX12_ballNumbers 72 (.iconst 0) 1 73 := ⟨by decide +kernel, rfl⟩
theorem d_X12_ballNumbers_73 : gD cX12_ballNumbers 73 (.bipush 7) 2 75 := ⟨by decide +kernel, rfl⟩
theorem d_X12_ballNumbers_75 : gD cX12_ballNumbers 75 (.invokevirtual 167) 3 78 := ⟨by decide +kernel, rfl⟩
theorem d_X12_ballNumbers_78 : gD cX12_ballNumbers 78 (.ifCond .eq 18) 3 81 ∧ ((78 : Nat) : Int) + 18 = ((96 : Nat) : Int) := ⟨⟨by decide +kernel, rfl⟩, by decide⟩
theorem d_X12_ballNumbers_81 : gD cX12_ballNumbers 81 (.aload_n 0) 1 82 := ⟨by decide +kernel, rfl⟩
theorem d_X12_ballNumbers_82 : gD cX12_ballNumbers 82 (.iconst 2) 1 83 := ⟨by decide +kernel, rfl⟩
theorem d_X12_ballNumbers_83 : gD cX12_ballNumbers 83 (.iconst 1) 1 84 := ⟨by decide +kernel, rfl⟩
theorem d_X12_ballNumbers_84 : gD cX12_ballNumbers 84 (.bipush 9) 2 86 := ⟨by decide +kernel, rfl⟩
theorem d_X12_ballNumbers_86 : gD cX12_ballNumbers 86 (.invokevirtual 167) 3 89 := ⟨by decide +kernel, rfl⟩
theorem d_X12_ballNumbers_89 : gD cX12_ballNumbers 89 (.ifCond .eq 7) 3 92 ∧ ((89 : Nat) : Int) + 7 = ((96 : Nat) : Int) := ⟨⟨by decide +kernel, rfl⟩, by decide⟩
theorem d_X12_ballNumbers_92 : gD cX12_ballNumbers 92 (.iconst 1) 1 93 := ⟨by decide +kernel, rfl⟩
theorem d_X12_ballNumbers_93 : decode cX12_ballNumbers 93 = .ok (.goto 4, 3) ∧ ((93 : Nat) : Int) + 4 = ((97 : Nat) : Int) := ⟨by decide +kernel, by decide⟩
theorem d_X12_ballNumbers_96 : gD cX12_ballNumbers 96 (.iconst 0) 1 97 := ⟨by decide +kernel, rfl⟩
theorem d_X12_ballNumbers_97 : gD cX12_ballNumbers 97 (.ireturn) 1 98 := ⟨by decide +kernel, rfl⟩
theorem d_X12_ballNumbers_98 : gD cX12_ballNumbers 98 (.aload_n 0) 1 99 := ⟨by decide +kernel, rfl⟩
theorem d_X12_ballNumbers_99 : gD cX12_ballNumbers 99 (.iconst 1) 1 100 := ⟨by decide +kernel, rfl⟩
theorem d_X12_ballNumbers_100 : gD cX12_ballNumbers 100 (.iconst 0) 1 101 := ⟨by decide +kernel, rfl⟩
theorem d_X12_ballNumbers_101 : gD cX12_ballNumbers 101 (.bipush 7) 2 103 := ⟨by decide +kernel, rfl⟩
theorem d_X12_ballNumbers_103 : gD cX12_ballNumbers 103 (.invokevirtual 167) 3 106 := ⟨by decide +kernel, rfl⟩
theorem d_X12_ballNumbers_106 : gD cX12_ballNumbers 106 (.ifCond .eq 17) 3 109 ∧ ((106 : Nat) : Int) + 17 = ((123 : Nat) : Int) := ⟨⟨by decide +kernel, rfl⟩, by decide⟩
theorem d_X12_ballNumbers_109 : gD cX12_ballNumbers 109 (.aload_n 0) 1 110 := ⟨by decide +kernel, rfl⟩
theorem d_X12_ballNumbers_110 : gD cX12_ballNumbers 110 (.iconst 2) 1 111 := ⟨by decide +kernel, rfl⟩
theorem d_X12_ballNumbers_111 : gD cX12_ballNumbers 111 (.iconst 0) 1 112 := ⟨by decide +kernel, rfl⟩
theorem d_X12_ballNumbers_112 : gD cX12_ballNumbers 112 (.iconst 3) 1 113 := ⟨by decide +kernel, rfl⟩
theorem d_X12_ballNumbers_113 : gD cX12_ballNumbers 113 (.invokevirtual 167) 3 116 := ⟨by decide +kernel, rfl⟩
theorem d_X12_ballNumbers_116 : gD cX12_ballNumbers 116 (.ifCond .eq 7) 3 119 ∧ ((116 : Nat) : Int) + 7 = ((123 : Nat) : Int) := ⟨⟨by decide +kernel, rfl⟩, by decide⟩
theorem d_X12_ballNumbers_119 : gD cX12_ballNumbers 119 (.iconst 1) 1 120 := ⟨by decide +kernel, rfl⟩
theorem d_X12_ballNumbers_120 : decode cX12_ballNumbers 120 = .ok (.goto 4, 3) ∧ ((120 : Nat) : Int) + 4 = ((124 : Nat) : Int) := ⟨by decide +kernel, by decide⟩
theorem d_X12_ballNumbers_123 : gD cX12_ballNumbers 123 (.iconst 0) 1 124 := ⟨by decide +kernel, rfl⟩
theorem d_X12_ballNumbers_124 : gD cX12_ballNumbers 124 (.ireturn) 1 125 := ⟨by decide +kernel, rfl⟩
theorem d_X12_ballNumbers_125 : gD cX12_ballNumbers 125 (.iconst 1) 1 126 := ⟨by decide +kernel, rfl⟩
theorem d_X12_ballNumbers_126 : gD cX12_ballNumbers 126 (.ireturn) 1 127 := ⟨by decide +kernel, rfl⟩
abbrev rm_X12_ballNumbers : Room := { frames := 4, cells := 0, slots := 0, locals := 91 }
set_option maxRecDepth 20000 in
theorem w_X12_ballNumbers_53 {Γ : GC} {E : GE} (hO : gOk Γ E cX12_ballNumbers RX12 2 rm_X12_ballNumbers (some .boolean) "ballNumbers") (o : Nat) (S : GS) : Go Γ E (gBsI Γ E) 2 (0, 0) 53 S [(0, vA (some o))] [] (f_X12_ballNumbers_53 o S) := by
  unfold f_X12_ballNumbers_53
  refine g_aload_n hO d_X12_ballNumbers_53 (by rfl) 0 rfl ?_
  refine g_iconst hO 1 d_X12_ballNumbers_54 (by decide) ?_
  refine g_iconst hO 0 d_X12_ballNumbers_55 (by decide) ?_
  refine g_iconst hO 3 d_X12_ballNumbers_56 (by decide) ?_
  refine k_virtIs hO cl_X12 mm_X12_take lkV_X12_167 ⟨⟨Nat.le_of_ble_eq_true rfl, Nat.le_of_ble_eq_true rfl⟩, Nat.le_of_ble_eq_true rfl, Nat.le_of_ble_eq_true rfl⟩ (kn' := (0, 0)) rfl (As := [vI 1, vI 0, vI 3]) rfl (Nat.le_of_ble_eq_true rfl) (fun o' _ => t_X12_take Γ.2.1 E o' 1 0 3 S) d_X12_ballNumbers_57 rfl (fun v1 S2 => ?_)
  exact g_zret hO rfl ⟨Nat.le_of_ble_eq_true rfl, Nat.le_of_ble_eq_true rfl⟩ rfl rfl d_X12_ballNumbers_60.1
set_option maxRecDepth 20000 in
theorem w_X12_ballNumbers_70 {Γ : GC} {E : GE} (hO : gOk Γ E cX12_ballNumbers RX12 2 rm_X12_ballNumbers (some .boolean) "ballNumbers") (o : Nat) (S : GS) : Go Γ E (gBsI Γ E) 2 (0, 0) 70 S [(0, vA (some o))] [] (f_X12_ballNumbers_70 o S) := by
  unfold f_X12_ballNumbers_70
  refine g_aload_n hO d_X12_ballNumbers_70 (by rfl) 0 rfl ?_
  refine g_iconst hO 1 d_X12_ballNumbers_71 (by decide) ?_
  refine g_iconst hO 0 d_X12_ballNumbers_72 (by decide) ?_
  refine g_bipush hO 7 d_X12_ballNumbers_73 (by decide) ?_
  refine k_virtIs hO cl_X12 mm_X12_take lkV_X12_167 ⟨⟨Nat.le_of_ble_eq_true rfl, Nat.le_of_ble_eq_true rfl⟩, Nat.le_of_ble_eq_true rfl, Nat.le_of_ble_eq_true rfl⟩ (kn' := (0, 0)) rfl (As := [vI 1, vI 0, vI 7]) rfl (Nat.le_of_ble_eq_true rfl) (fun o' _ => t_X12_take Γ.2.1 E o' 1 0 7 S) d_X12_ballNumbers_75 rfl (fun v1 S2 => ?_)
  refine g_if_eq (tgt := 96) hO d_X12_ballNumbers_78.1 d_X12_ballNumbers_78.2 (fun _ => ?_) (fun _ => ?_)
  · skip
    refine g_iconst hO 0 d_X12_ballNumbers_96 (by decide) ?_
    exact g_ret hO rfl rfl ⟨Nat.le_of_ble_eq_true rfl, Nat.le_of_ble_eq_true rfl⟩ rfl rfl d_X12_ballNumbers_97.1
  · skip
    refine g_aload_n hO d_X12_ballNumbers_81 (by rfl) 0 rfl ?_
    refine g_iconst hO 2 d_X12_ballNumbers_82 (by decide) ?_
    refine g_iconst hO 1 d_X12_ballNumbers_83 (by decide) ?_
    refine g_bipush hO 9 d_X12_ballNumbers_84 (by decide) ?_
    refine k_virtIs hO cl_X12 mm_X12_take lkV_X12_167 ⟨⟨Nat.le_of_ble_eq_true rfl, Nat.le_of_ble_eq_true rfl⟩, Nat.le_of_ble_eq_true rfl, Nat.le_of_ble_eq_true rfl⟩ (kn' := (0, 0)) rfl (As := [vI 2, vI 1, vI 9]) rfl (Nat.le_of_ble_eq_true rfl) (fun o' _ => t_X12_take Γ.2.1 E o' 2 1 9 S2) d_X12_ballNumbers_86 rfl (fun v3 S4 => ?_)
    refine g_if_eq (tgt := 96) hO d_X12_ballNumbers_89.1 d_X12_ballNumbers_89.2 (fun _ => ?_) (fun _ => ?_)
    · skip
      refine g_iconst hO 0 d_X12_ballNumbers_96 (by decide) ?_
      exact g_ret hO rfl rfl ⟨Nat.le_of_ble_eq_true rfl, Nat.le_of_ble_eq_true rfl⟩ rfl rfl d_X12_ballNumbers_97.1
    · skip
      refine g_iconst hO 1 d_X12_ballNumbers_92 (by decide) ?_
      refine g_goto (tgt := 97) hO d_X12_ballNumbers_93.1 d_X12_ballNumbers_93.2 ?_
      exact g_ret hO rfl rfl ⟨Nat.le_of_ble_eq_true rfl, Nat.le_of_ble_eq_true rfl⟩ rfl rfl d_X12_ballNumbers_97.1
set_option maxRecDepth 20000 in
theorem w_X12_ballNumbers {Γ : GC} {E : GE} (hO : gOk Γ E cX12_ballNumbers RX12 2 rm_X12_ballNumbers (some .boolean) "ballNumbers") (o : Nat) (x1 : Int32) (S : GS) : Go Γ E (gBsI Γ E) 2 (0, 0) 0 S [(0, vA (some o)), (1, vI x1)] [] (f_X12_ballNumbers o x1 S) := by
  unfold f_X12_ballNumbers
  refine g_iload_n hO d_X12_ballNumbers_0 (by rfl) 1 rfl ?_
  refine h_tsw (c := 0) (dt := 125) hO d_X12_ballNumbers_1.1 7 (by decide) (by rfl) rfl (by decide) (by decide) d_X12_ballNumbers_1.2 ⟨⟨44, by decide, ?_⟩, ⟨53, by decide, ?_⟩, ⟨53, by decide, ?_⟩, ⟨61, by decide, ?_⟩, ⟨70, by decide, ?_⟩, ⟨70, by decide, ?_⟩, ⟨98, by decide, ?_⟩, trivial⟩ ?_
  · skip
    refine g_aload_n hO d_X12_ballNumbers_44 (by rfl) 0 rfl ?_
    refine g_iconst hO 1 d_X12_ballNumbers_45 (by decide) ?_
    refine g_iconst hO 0 d_X12_ballNumbers_46 (by decide) ?_
    refine g_bipush hO 40 d_X12_ballNumbers_47 (by decide) ?_
    refine k_virtIs hO cl_X12 mm_X12_take lkV_X12_167 ⟨⟨Nat.le_of_ble_eq_true rfl, Nat.le_of_ble_eq_true rfl⟩, Nat.le_of_ble_eq_true rfl, Nat.le_of_ble_eq_true rfl⟩ (kn' := (0, 0)) rfl (As := [vI 1, vI 0, vI 40]) rfl (Nat.le_of_ble_eq_true rfl) (fun o' _ => t_X12_take Γ.2.1 E o' 1 0 40 S) d_X12_ballNumbers_49 rfl (fun v1 S2 => ?_)
    exact g_zret hO rfl ⟨Nat.le_of_ble_eq_true rfl, Nat.le_of_ble_eq_true rfl⟩ rfl rfl d_X12_ballNumbers_52.1
  · skip
    exact g_sub [0] rfl (w_X12_ballNumbers_53 hO o _)
  · skip
    exact g_sub [0] rfl (w_X12_ballNumbers_53 hO o _)
  · skip
    refine g_aload_n hO d_X12_ballNumbers_61 (by rfl) 0 rfl ?_
    refine g_iconst hO 1 d_X12_ballNumbers_62 (by decide) ?_
    refine g_iconst hO 0 d_X12_ballNumbers_63 (by decide) ?_
    refine g_bipush hO 7 d_X12_ballNumbers_64 (by decide) ?_
    refine k_virtIs hO cl_X12 mm_X12_take lkV_X12_167 ⟨⟨Nat.le_of_ble_eq_true rfl, Nat.le_of_ble_eq_true rfl⟩, Nat.le_of_ble_eq_true rfl, Nat.le_of_ble_eq_true rfl⟩ (kn' := (0, 0)) rfl (As := [vI 1, vI 0, vI 7]) rfl (Nat.le_of_ble_eq_true rfl) (fun o' _ => t_X12_take Γ.2.1 E o' 1 0 7 S) d_X12_ballNumbers_66 rfl (fun v3 S4 => ?_)
    exact g_zret hO rfl ⟨Nat.le_of_ble_eq_true rfl, Nat.le_of_ble_eq_true rfl⟩ rfl rfl d_X12_ballNumbers_69.1
  · skip
    exact g_sub [0] rfl (w_X12_ballNumbers_70 hO o _)
  · skip
    exact g_sub [0] rfl (w_X12_ballNumbers_70 hO o _)
  · skip
    refine g_aload_n hO d_X12_ballNumbers_98 (by rfl) 0 rfl ?_
    refine g_iconst hO 1 d_X12_ballNumbers_99 (by decide) ?_
    refine g_iconst hO 0 d_X12_ballNumbers_100 (by decide) ?_
    refine g_bipush hO 7 d_X12_ballNumbers_101 (by decide) ?_
    refine k_virtIs hO cl_X12 mm_X12_take lkV_X12_167 ⟨⟨Nat.le_of_ble_eq_true rfl, Nat.le_of_ble_eq_true rfl⟩, Nat.le_of_ble_eq_true rfl, Nat.le_of_ble_eq_true rfl⟩ (kn' := (0, 0)) rfl (As := [vI 1, vI 0, vI 7]) rfl (Nat.le_of_ble_eq_true rfl) (fun o' _ => t_X12_take Γ.2.1 E o' 1 0 7 S) d_X12_ballNumbers_103 rfl (fun v5 S6 => ?_)
    refine g_if_eq (tgt := 123) hO d_X12_ballNumbers_106.1 d_X12_ballNumbers_106.2 (fun _ => ?_) (fun _ => ?_)
    · skip
      refine g_iconst hO 0 d_X12_ballNumbers_123 (by decide) ?_
      exact g_ret hO rfl rfl ⟨Nat.le_of_ble_eq_true rfl, Nat.le_of_ble_eq_true rfl⟩ rfl rfl d_X12_ballNumbers_124.1
    · skip
      refine g_aload_n hO d_X12_ballNumbers_109 (by rfl) 0 rfl ?_
      refine g_iconst hO 2 d_X12_ballNumbers_110 (by decide) ?_
      refine g_iconst hO 0 d_X12_ballNumbers_111 (by decide) ?_
      refine g_iconst hO 3 d_X12_ballNumbers_112 (by decide) ?_
      refine k_virtIs hO cl_X12 mm_X12_take lkV_X12_167 ⟨⟨Nat.le_of_ble_eq_true rfl, Nat.le_of_ble_eq_true rfl⟩, Nat.le_of_ble_eq_true rfl, Nat.le_of_ble_eq_true rfl⟩ (kn' := (0, 0)) rfl (As := [vI 2, vI 0, vI 3]) rfl (Nat.le_of_ble_eq_true rfl) (fun o' _ => t_X12_take Γ.2.1 E o' 2 0 3 S6) d_X12_ballNumbers_113 rfl (fun v7 S8 => ?_)
      refine g_if_eq (tgt := 123) hO d_X12_ballNumbers_116.1 d_X12_ballNumbers_116.2 (fun _ => ?_) (fun _ => ?_)
      · skip
        refine g_iconst hO 0 d_X12_ballNumbers_123 (by decide) ?_
        exact g_ret hO rfl rfl ⟨Nat.le_of_ble_eq_true rfl, Nat.le_of_ble_eq_true rfl⟩ rfl rfl d_X12_ballNumbers_124.1
      · skip
        refine g_iconst hO 1 d_X12_ballNumbers_119 (by decide) ?_
        refine g_goto (tgt := 124) hO d_X12_ballNumbers_120.1 d_X12_ballNumbers_120.2 ?_
        exact g_ret hO rfl rfl ⟨Nat.le_of_ble_eq_true rfl, Nat.le_of_ble_eq_true rfl⟩ rfl rfl d_X12_ballNumbers_124.1
  · skip
    refine g_iconst hO 1 d_X12_ballNumbers_125 (by decide) ?_
    exact g_ret hO rfl rfl ⟨Nat.le_of_ble_eq_true rfl, Nat.le_of_ble_eq_true rfl⟩ rfl rfl d_X12_ballNumbers_126.1
theorem t_X12_ballNumbers (l : Launch) (E : GE) (o : Nat) (x1 : Int32) (S : GS) : ∀ a, f_X12_ballNumbers o x1 S = some a → Ct l E yX12_ballNumbers cX12_ballNumbers 2 (some .boolean) rm_X12_ballNumbers [vA (some o), vI x1] S (some (vI a.1)) a.2 :=
  Ct_of (val := fun (b : Int32 × GS) => some (vI b.1)) (nxt := fun (b : Int32 × GS) => b.2) (by decide) (Nat.le_of_ble_eq_true rfl) (fun Γ hl hO => w_X12_ballNumbers hO o x1 S)
theorem d_X12_ballLine_0 : gD cX12_ballLine 0 (.lload_n 1) 1 1 := ⟨by decide +kernel, rfl⟩
theorem d_X12_ballLine_1 : gD cX12_ballLine 1 (.invokestatic 224) 3 4 := ⟨by decide +kernel, rfl⟩
theorem d_X12_ballLine_4 : gD cX12_ballLine 4 (.istore 4) 2 6 := ⟨by decide +kernel, rfl⟩
theorem d_X12_ballLine_6 : gD cX12_ballLine 6 (.iload 4) 2 8 := ⟨by decide +kernel, rfl⟩
theorem d_X12_ballLine_8 : gD cX12_ballLine 8 (.iconst (-1)) 1 9 := ⟨by decide +kernel, rfl⟩
theorem d_X12_ballLine_9 : gD cX12_ballLine 9 (.if_icmp .ne 8) 3 12 ∧ ((9 : Nat) : Int) + 8 = ((17 : Nat) : Int) := ⟨⟨by decide +kernel, rfl⟩, by decide⟩
theorem d_X12_ballLine_12 : gD cX12_ballLine 12 (.aload_n 0) 1 13 := ⟨by decide +kernel, rfl⟩
theorem d_X12_ballLine_13 : gD cX12_ballLine 13 (.invokevirtual 152) 3 16 := ⟨by decide +kernel, rfl⟩
theorem d_X12_ballLine_16 : gD cX12_ballLine 16 (.ireturn) 1 17 := ⟨by decide +kernel, rfl⟩
theorem d_X12_ballLine_17 : gD cX12_ballLine 17 (.aload_n 0) 1 18 := ⟨by decide +kernel, rfl⟩
theorem d_X12_ballLine_18 : gD cX12_ballLine 18 (.iconst 0) 1 19 := ⟨by decide +kernel, rfl⟩
theorem d_X12_ballLine_19 : gD cX12_ballLine 19 (.bipush 40) 2 21 := ⟨by decide +kernel, rfl⟩
theorem d_X12_ballLine_21 : gD cX12_ballLine 21 (.iload_n 3) 1 22 := ⟨by decide +kernel, rfl⟩
theorem d_X12_ballLine_22 : gD cX12_ballLine 22 (.invokevirtual 198) 3 25 := ⟨by decide +kernel, rfl⟩
theorem d_X12_ballLine_25 : gD cX12_ballLine 25 (.aload_n 0) 1 26 := ⟨by decide +kernel, rfl⟩
theorem d_X12_ballLine_26 : gD cX12_ballLine 26 (.invokevirtual 160) 3 29 := ⟨by decide +kernel, rfl⟩
theorem d_X12_ballLine_29 : gD cX12_ballLine 29 (.aload_n 0) 1 30 := ⟨by decide +kernel, rfl⟩
theorem d_X12_ballLine_30 : gD cX12_ballLine 30 (.getfield 47) 3 33 := ⟨by decide +kernel, rfl⟩
theorem d_X12_ballLine_33 : gD cX12_ballLine 33 (.iconst 0) 1 34 := ⟨by decide +kernel, rfl⟩
theorem d_X12_ballLine_34 : gD cX12_ballLine 34 (.iload 4) 2 36 := ⟨by decide +kernel, rfl⟩
theorem d_X12_ballLine_36 : gD cX12_ballLine 36 (.iastore) 1 37 := ⟨by decide +kernel, rfl⟩
theorem d_X12_ballLine_37 : gD cX12_ballLine 37 (.aload_n 0) 1 38 := ⟨by decide +kernel, rfl⟩
theorem d_X12_ballLine_38 : gD cX12_ballLine 38 (.getfield 47) 3 41 := ⟨by decide +kernel, rfl⟩
theorem d_X12_ballLine_41 : gD cX12_ballLine 41 (.iconst 1) 1 42 := ⟨by decide +kernel, rfl⟩
theorem d_X12_ballLine_42 : gD cX12_ballLine 42 (.iconst (-1)) 1 43 := ⟨by decide +kernel, rfl⟩
theorem d_X12_ballLine_43 : gD cX12_ballLine 43 (.iastore) 1 44 := ⟨by decide +kernel, rfl⟩
theorem d_X12_ballLine_44 : gD cX12_ballLine 44 (.aload_n 0) 1 45 := ⟨by decide +kernel, rfl⟩
theorem d_X12_ballLine_45 : gD cX12_ballLine 45 (.getfield 47) 3 48 := ⟨by decide +kernel, rfl⟩
theorem d_X12_ballLine_48 : gD cX12_ballLine 48 (.iconst 2) 1 49 := ⟨by decide +kernel, rfl⟩
theorem d_X12_ballLine_49 : gD cX12_ballLine 49 (.iconst (-1)) 1 50 := ⟨by decide +kernel, rfl⟩
theorem d_X12_ballLine_50 : gD cX12_ballLine 50 (.iastore) 1 51 := ⟨by decide +kernel, rfl⟩
theorem d_X12_ballLine_51 : gD cX12_ballLine 51 (.aload_n 0) 1 52 := ⟨by decide +kernel, rfl⟩
theorem d_X12_ballLine_52 : gD cX12_ballLine 52 (.iload 4) 2 54 := ⟨by decide +kernel, rfl⟩
theorem d_X12_ballLine_54 : gD cX12_ballLine 54 (.invokevirtual 228) 3 57 := ⟨by decide +kernel, rfl⟩
theorem d_X12_ballLine_57 : gD cX12_ballLine 57 (.ifCond .ne 5) 3 60 ∧ ((57 : Nat) : Int) + 5 = ((62 : Nat) : Int) := ⟨⟨by decide +kernel, rfl⟩, by decide⟩
theorem d_X12_ballLine_60 : gD cX12_ballLine 60 (.iconst 0) 1 61 := ⟨by decide +kernel, rfl⟩
theorem d_X12_ballLine_61 : gD cX12_ballLine 61 (.ireturn) 1 62 := ⟨by decide +kernel, rfl⟩
theorem d_X12_ballLine_62 : gD cX12_ballLine 62 (.aload_n 0) 1 63 := ⟨by decide +kernel, rfl⟩
theorem d_X12_ballLine_63 : gD cX12_ballLine 63 (.iconst 0) 1 64 := ⟨by decide +kernel, rfl⟩
theorem d_X12_ballLine_64 : gD cX12_ballLine 64 (.iconst 1) 1 65 := ⟨by decide +kernel, rfl⟩
theorem d_X12_ballLine_65 : gD cX12_ballLine 65 (.iconst 3) 1 66 := ⟨by decide +kernel, rfl⟩
theorem d_X12_ballLine_66 : gD cX12_ballLine 66 (.bipush 40) 2 68 := ⟨by decide +kernel, rfl⟩
theorem d_X12_ballLine_68 : gD cX12_ballLine 68 (.invokevirtual 177) 3 71 := ⟨by decide +kernel, rfl⟩
theorem d_X12_ballLine_71 : gD cX12_ballLine 71 (.iconst 1) 1 72 := ⟨by decide +kernel, rfl⟩
theorem d_X12_ballLine_72 : gD cX12_ballLine 72 (.ireturn) 1 73 := ⟨by decide +kernel, rfl⟩
abbrev rm_X12_ballLine : Room := { frames := 5, cells := 0, slots := 0, locals := 112 }
set_option maxRecDepth 20000 in
theorem w_X12_ballLine {Γ : GC} {E : GE} (hO : gOk Γ E cX12_ballLine RX12 5 rm_X12_ballLine (some .boolean) "ballLine") (o : Nat) (x1 : Int64) (x3 : Int32) (S : GS) : Go Γ E (gBsI Γ E) 5 (0, 0) 0 S [(0, vA (some o)), (1, vJ x1), (3, vI x3)] [] (f_X12_ballLine o x1 x3 S) := by
  unfold f_X12_ballLine
  refine g_lload_n hO d_X12_ballLine_0 (by rfl) 1 rfl ?_
  refine k_statIp hO mm_X12_deedBy lkS_X12_224 ⟨⟨Nat.le_of_ble_eq_true rfl, Nat.le_of_ble_eq_true rfl⟩, Nat.le_of_ble_eq_true rfl, Nat.le_of_ble_eq_true rfl⟩ (kn' := (0, 0)) rfl (As := [vJ x1]) rfl (Nat.le_of_ble_eq_true rfl) (t_X12_deedBy Γ.2.1 E x1 S) d_X12_ballLine_1 rfl (fun v1 => ?_)
  refine g_istore (lv' := [(4, vI v1), (0, vA (some o)), (1, vJ x1), (3, vI x3)]) hO d_X12_ballLine_4 (by decide) rfl ?_
  refine g_iload hO d_X12_ballLine_6 0 rfl ?_
  refine g_iconst hO (-1) d_X12_ballLine_8 (by decide) ?_
  refine g_ic_ne (tgt := 17) hO d_X12_ballLine_9.1 d_X12_ballLine_9.2 (fun _ => ?_) (fun _ => ?_)
  · skip
    refine g_aload_n hO d_X12_ballLine_12 (by rfl) 1 rfl ?_
    refine k_virtIs hO cl_X12 mm_X12_fails lkV_X12_152 ⟨⟨Nat.le_of_ble_eq_true rfl, Nat.le_of_ble_eq_true rfl⟩, Nat.le_of_ble_eq_true rfl, Nat.le_of_ble_eq_true rfl⟩ (kn' := (0, 0)) rfl (As := []) rfl (Nat.le_of_ble_eq_true rfl) (fun o' _ => t_X12_fails Γ.2.1 E o' S) d_X12_ballLine_13 rfl (fun v3 S4 => ?_)
    exact g_zret hO rfl ⟨Nat.le_of_ble_eq_true rfl, Nat.le_of_ble_eq_true rfl⟩ rfl rfl d_X12_ballLine_16.1
  · skip
    refine g_aload_n hO d_X12_ballLine_17 (by rfl) 1 rfl ?_
    refine g_iconst hO 0 d_X12_ballLine_18 (by decide) ?_
    refine g_bipush hO 40 d_X12_ballLine_19 (by decide) ?_
    refine g_iload_n hO d_X12_ballLine_21 (by rfl) 3 rfl ?_
    refine k_virtVs hO cl_X12 mm_X12_full lkV_X12_198 ⟨⟨Nat.le_of_ble_eq_true rfl, Nat.le_of_ble_eq_true rfl⟩, Nat.le_of_ble_eq_true rfl, Nat.le_of_ble_eq_true rfl⟩ (kn' := (0, 0)) rfl (As := [vI 0, vI 40, vI x3]) rfl (Nat.le_of_ble_eq_true rfl) (fun o' _ => t_X12_full Γ.2.1 E o' 0 40 x3 S) d_X12_ballLine_22 rfl (fun S6 => ?_)
    refine g_aload_n hO d_X12_ballLine_25 (by rfl) 1 rfl ?_
    refine k_virtVs hO cl_X12 mm_X12_token lkV_X12_160 ⟨⟨Nat.le_of_ble_eq_true rfl, Nat.le_of_ble_eq_true rfl⟩, Nat.le_of_ble_eq_true rfl, Nat.le_of_ble_eq_true rfl⟩ (kn' := (0, 0)) rfl (As := []) rfl (Nat.le_of_ble_eq_true rfl) (fun o' _ => t_X12_token Γ.2.1 E o' S6) d_X12_ballLine_26 rfl (fun S8 => ?_)
    refine g_aload_n hO d_X12_ballLine_29 (by rfl) 1 rfl ?_
    refine h_getR hO cl_X12 22 rfl wf_X12_47 d_X12_ballLine_30 (fun v9 => ?_)
    refine g_iconst hO 0 d_X12_ballLine_33 (by decide) ?_
    refine g_iload hO d_X12_ballLine_34 0 rfl ?_
    refine h_iast hO d_X12_ballLine_36 (fun S10 => ?_)
    refine g_aload_n hO d_X12_ballLine_37 (by rfl) 1 rfl ?_
    refine h_getR hO cl_X12 22 rfl wf_X12_47 d_X12_ballLine_38 (fun v11 => ?_)
    refine g_iconst hO 1 d_X12_ballLine_41 (by decide) ?_
    refine g_iconst hO (-1) d_X12_ballLine_42 (by decide) ?_
    refine h_iast hO d_X12_ballLine_43 (fun S12 => ?_)
    refine g_aload_n hO d_X12_ballLine_44 (by rfl) 1 rfl ?_
    refine h_getR hO cl_X12 22 rfl wf_X12_47 d_X12_ballLine_45 (fun v13 => ?_)
    refine g_iconst hO 2 d_X12_ballLine_48 (by decide) ?_
    refine g_iconst hO (-1) d_X12_ballLine_49 (by decide) ?_
    refine h_iast hO d_X12_ballLine_50 (fun S14 => ?_)
    refine g_aload_n hO d_X12_ballLine_51 (by rfl) 1 rfl ?_
    refine g_iload hO d_X12_ballLine_52 0 rfl ?_
    refine k_virtIs hO cl_X12 mm_X12_ballNumbers lkV_X12_228 ⟨⟨Nat.le_of_ble_eq_true rfl, Nat.le_of_ble_eq_true rfl⟩, Nat.le_of_ble_eq_true rfl, Nat.le_of_ble_eq_true rfl⟩ (kn' := (0, 0)) rfl (As := [vI v1]) rfl (Nat.le_of_ble_eq_true rfl) (fun o' _ => t_X12_ballNumbers Γ.2.1 E o' v1 S14) d_X12_ballLine_54 rfl (fun v15 S16 => ?_)
    refine g_if_ne (tgt := 62) hO d_X12_ballLine_57.1 d_X12_ballLine_57.2 (fun _ => ?_) (fun _ => ?_)
    · skip
      refine g_iconst hO 0 d_X12_ballLine_60 (by decide) ?_
      exact g_ret hO rfl rfl ⟨Nat.le_of_ble_eq_true rfl, Nat.le_of_ble_eq_true rfl⟩ rfl rfl d_X12_ballLine_61.1
    · skip
      refine g_aload_n hO d_X12_ballLine_62 (by rfl) 1 rfl ?_
      refine g_iconst hO 0 d_X12_ballLine_63 (by decide) ?_
      refine g_iconst hO 1 d_X12_ballLine_64 (by decide) ?_
      refine g_iconst hO 3 d_X12_ballLine_65 (by decide) ?_
      refine g_bipush hO 40 d_X12_ballLine_66 (by decide) ?_
      refine k_virtVs hO cl_X12 mm_X12_keep lkV_X12_177 ⟨⟨Nat.le_of_ble_eq_true rfl, Nat.le_of_ble_eq_true rfl⟩, Nat.le_of_ble_eq_true rfl, Nat.le_of_ble_eq_true rfl⟩ (kn' := (0, 0)) rfl (As := [vI 0, vI 1, vI 3, vI 40]) rfl (Nat.le_of_ble_eq_true rfl) (fun o' _ => t_X12_keep Γ.2.1 E o' 0 1 3 40 S16) d_X12_ballLine_68 rfl (fun S18 => ?_)
      refine g_iconst hO 1 d_X12_ballLine_71 (by decide) ?_
      exact g_ret hO rfl rfl ⟨Nat.le_of_ble_eq_true rfl, Nat.le_of_ble_eq_true rfl⟩ rfl rfl d_X12_ballLine_72.1
theorem t_X12_ballLine (l : Launch) (E : GE) (o : Nat) (x1 : Int64) (x3 : Int32) (S : GS) : ∀ a, f_X12_ballLine o x1 x3 S = some a → Ct l E yX12_ballLine cX12_ballLine 5 (some .boolean) rm_X12_ballLine [vA (some o), vJ x1, vI x3] S (some (vI a.1)) a.2 :=
  Ct_of (val := fun (b : Int32 × GS) => some (vI b.1)) (nxt := fun (b : Int32 × GS) => b.2) (by decide) (Nat.le_of_ble_eq_true rfl) (fun Γ hl hO => w_X12_ballLine hO o x1 x3 S)
theorem d_X12_forecastLine_0 : gD cX12_forecastLine 0 (.lload_n 1) 1 1 := ⟨by decide +kernel, rfl⟩
theorem d_X12_forecastLine_1 : gD cX12_forecastLine 1 (.ldc2_w 232) 3 4 := ⟨by decide +kernel, rfl⟩
theorem d_X12_forecastLine_4 : gD cX12_forecastLine 4 (.lcmp) 1 5 := ⟨by decide +kernel, rfl⟩
theorem d_X12_forecastLine_5 : gD cX12_forecastLine 5 (.ifCond .eq 8) 3 8 ∧ ((5 : Nat) : Int) + 8 = ((13 : Nat) : Int) := ⟨⟨by decide +kernel, rfl⟩, by decide⟩
theorem d_X12_forecastLine_8 : gD cX12_forecastLine 8 (.aload_n 0) 1 9 := ⟨by decide +kernel, rfl⟩
theorem d_X12_forecastLine_9 : gD cX12_forecastLine 9 (.invokevirtual 152) 3 12 := ⟨by decide +kernel, rfl⟩
theorem d_X12_forecastLine_12 : gD cX12_forecastLine 12 (.ireturn) 1 13 := ⟨by decide +kernel, rfl⟩
theorem d_X12_forecastLine_13 : gD cX12_forecastLine 13 (.aload_n 0) 1 14 := ⟨by decide +kernel, rfl⟩
theorem d_X12_forecastLine_14 : gD cX12_forecastLine 14 (.invokevirtual 160) 3 17 := ⟨by decide +kernel, rfl⟩
theorem d_X12_forecastLine_17 : gD cX12_forecastLine 17 (.aload_n 0) 1 18 := ⟨by decide +kernel, rfl⟩
theorem d_X12_forecastLine_18 : gD cX12_forecastLine 18 (.iconst 0) 1 19 := ⟨by decide +kernel, rfl⟩
theorem d_X12_forecastLine_19 : gD cX12_forecastLine 19 (.bipush 16) 2 21 := ⟨by decide +kernel, rfl⟩
theorem d_X12_forecastLine_21 : gD cX12_forecastLine 21 (.aload_n 0) 1 22 := ⟨by decide +kernel, rfl⟩
theorem d_X12_forecastLine_22 : gD cX12_forecastLine 22 (.getfield 130) 3 25 := ⟨by decide +kernel, rfl⟩
theorem d_X12_forecastLine_25 : gD cX12_forecastLine 25 (.invokevirtual 198) 3 28 := ⟨by decide +kernel, rfl⟩
theorem d_X12_forecastLine_28 : gD cX12_forecastLine 28 (.aload_n 0) 1 29 := ⟨by decide +kernel, rfl⟩
theorem d_X12_forecastLine_29 : gD cX12_forecastLine 29 (.iconst 0) 1 30 := ⟨by decide +kernel, rfl⟩
theorem d_X12_forecastLine_30 : gD cX12_forecastLine 30 (.iconst 0) 1 31 := ⟨by decide +kernel, rfl⟩
theorem d_X12_forecastLine_31 : gD cX12_forecastLine 31 (.bipush 40) 2 33 := ⟨by decide +kernel, rfl⟩
theorem d_X12_forecastLine_33 : gD cX12_forecastLine 33 (.invokevirtual 167) 3 36 := ⟨by decide +kernel, rfl⟩
theorem d_X12_forecastLine_36 : gD cX12_forecastLine 36 (.ifCond .ne 5) 3 39 ∧ ((36 : Nat) : Int) + 5 = ((41 : Nat) : Int) := ⟨⟨by decide +kernel, rfl⟩, by decide⟩
theorem d_X12_forecastLine_39 : gD cX12_forecastLine 39 (.iconst 0) 1 40 := ⟨by decide +kernel, rfl⟩
theorem d_X12_forecastLine_40 : gD cX12_forecastLine 40 (.ireturn) 1 41 := ⟨by decide +kernel, rfl⟩
theorem d_X12_forecastLine_41 : gD cX12_forecastLine 41 (.aload_n 0) 1 42 := ⟨by decide +kernel, rfl⟩
theorem d_X12_forecastLine_42 : gD cX12_forecastLine 42 (.iconst 0) 1 43 := ⟨by decide +kernel, rfl⟩
theorem d_X12_forecastLine_43 : gD cX12_forecastLine 43 (.iconst 1) 1 44 := ⟨by decide +kernel, rfl⟩
theorem d_X12_forecastLine_44 : gD cX12_forecastLine 44 (.iconst 1) 1 45 := ⟨by decide +kernel, rfl⟩
theorem d_X12_forecastLine_45 : gD cX12_forecastLine 45 (.bipush 16) 2 47 := ⟨by decide +kernel, rfl⟩
theorem d_X12_forecastLine_47 : gD cX12_forecastLine 47 (.invokevirtual 177) 3 50 := ⟨by decide +kernel, rfl⟩
theorem d_X12_forecastLine_50 : gD cX12_forecastLine 50 (.aload_n 0) 1 51 := ⟨by decide +kernel, rfl⟩
theorem d_X12_forecastLine_51 : gD cX12_forecastLine 51 (.getfield 137) 3 54 := ⟨by decide +kernel, rfl⟩
theorem d_X12_forecastLine_54 : gD cX12_forecastLine 54 (.iconst 3) 1 55 := ⟨by decide +kernel, rfl⟩
theorem d_X12_forecastLine_55 : gD cX12_forecastLine 55 (.if_icmp .eq (-38)) 3 58 ∧ ((55 : Nat) : Int) + (-38) = ((17 : Nat) : Int) := ⟨⟨by decide +kernel, rfl⟩, by decide⟩
theorem d_X12_forecastLine_58 : gD cX12_forecastLine 58 (.iconst 1) 1 59 := ⟨by decide +kernel, rfl⟩
theorem d_X12_forecastLine_59 : gD cX12_forecastLine 59 (.ireturn) 1 60 := ⟨by decide +kernel, rfl⟩
abbrev rm_X12_forecastLine : Room := { frames := 4, cells := 0, slots := 0, locals := 91 }
set_option maxRecDepth 20000 in
theorem w_X12_forecastLine_17 {Γ : GC} {E : GE} (hO : gOk Γ E cX12_forecastLine RX12 3 rm_X12_forecastLine (some .boolean) "forecastLine") (o : Nat) : ∀ (n : Nat) (S : GS), Go Γ E (gBsI Γ E) 3 (0, 0) 17 S [(0, vA (some o))] [] (f_X12_forecastLine_17 o n S) := by
  intro n
  induction n with
  | zero =>
    intro S
    exact g_none
  | succ n ih =>
    intro S
    rw [f_X12_forecastLine_17]
    refine g_aload_n hO d_X12_forecastLine_17 (by rfl) 0 rfl ?_
    refine g_iconst hO 0 d_X12_forecastLine_18 (by decide) ?_
    refine g_bipush hO 16 d_X12_forecastLine_19 (by decide) ?_
    refine g_aload_n hO d_X12_forecastLine_21 (by rfl) 0 rfl ?_
    refine h_getI hO cl_X12 14 rfl wf_X12_130 d_X12_forecastLine_22 (fun v1 => ?_)
    refine k_virtVs hO cl_X12 mm_X12_full lkV_X12_198 ⟨⟨Nat.le_of_ble_eq_true rfl, Nat.le_of_ble_eq_true rfl⟩, Nat.le_of_ble_eq_true rfl, Nat.le_of_ble_eq_true rfl⟩ (kn' := (0, 0)) rfl (As := [vI 0, vI 16, vI v1]) rfl (Nat.le_of_ble_eq_true rfl) (fun o' _ => t_X12_full Γ.2.1 E o' 0 16 v1 S) d_X12_forecastLine_25 rfl (fun S3 => ?_)
    refine g_aload_n hO d_X12_forecastLine_28 (by rfl) 0 rfl ?_
    refine g_iconst hO 0 d_X12_forecastLine_29 (by decide) ?_
    refine g_iconst hO 0 d_X12_forecastLine_30 (by decide) ?_
    refine g_bipush hO 40 d_X12_forecastLine_31 (by decide) ?_
    refine k_virtIs hO cl_X12 mm_X12_take lkV_X12_167 ⟨⟨Nat.le_of_ble_eq_true rfl, Nat.le_of_ble_eq_true rfl⟩, Nat.le_of_ble_eq_true rfl, Nat.le_of_ble_eq_true rfl⟩ (kn' := (0, 0)) rfl (As := [vI 0, vI 0, vI 40]) rfl (Nat.le_of_ble_eq_true rfl) (fun o' _ => t_X12_take Γ.2.1 E o' 0 0 40 S3) d_X12_forecastLine_33 rfl (fun v4 S5 => ?_)
    refine g_if_ne (tgt := 41) hO d_X12_forecastLine_36.1 d_X12_forecastLine_36.2 (fun _ => ?_) (fun _ => ?_)
    · skip
      refine g_iconst hO 0 d_X12_forecastLine_39 (by decide) ?_
      exact g_ret hO rfl rfl ⟨Nat.le_of_ble_eq_true rfl, Nat.le_of_ble_eq_true rfl⟩ rfl rfl d_X12_forecastLine_40.1
    · skip
      refine g_aload_n hO d_X12_forecastLine_41 (by rfl) 0 rfl ?_
      refine g_iconst hO 0 d_X12_forecastLine_42 (by decide) ?_
      refine g_iconst hO 1 d_X12_forecastLine_43 (by decide) ?_
      refine g_iconst hO 1 d_X12_forecastLine_44 (by decide) ?_
      refine g_bipush hO 16 d_X12_forecastLine_45 (by decide) ?_
      refine k_virtVs hO cl_X12 mm_X12_keep lkV_X12_177 ⟨⟨Nat.le_of_ble_eq_true rfl, Nat.le_of_ble_eq_true rfl⟩, Nat.le_of_ble_eq_true rfl, Nat.le_of_ble_eq_true rfl⟩ (kn' := (0, 0)) rfl (As := [vI 0, vI 1, vI 1, vI 16]) rfl (Nat.le_of_ble_eq_true rfl) (fun o' _ => t_X12_keep Γ.2.1 E o' 0 1 1 16 S5) d_X12_forecastLine_47 rfl (fun S7 => ?_)
      refine g_aload_n hO d_X12_forecastLine_50 (by rfl) 0 rfl ?_
      refine h_getI hO cl_X12 15 rfl wf_X12_137 d_X12_forecastLine_51 (fun v8 => ?_)
      refine g_iconst hO 3 d_X12_forecastLine_54 (by decide) ?_
      refine g_ic_eq (tgt := 17) hO d_X12_forecastLine_55.1 d_X12_forecastLine_55.2 (fun _ => ?_) (fun _ => ?_)
      · skip
        exact g_sub [0] rfl (ih _)
      · skip
        refine g_iconst hO 1 d_X12_forecastLine_58 (by decide) ?_
        exact g_ret hO rfl rfl ⟨Nat.le_of_ble_eq_true rfl, Nat.le_of_ble_eq_true rfl⟩ rfl rfl d_X12_forecastLine_59.1
set_option maxRecDepth 20000 in
theorem w_X12_forecastLine {Γ : GC} {E : GE} (hO : gOk Γ E cX12_forecastLine RX12 3 rm_X12_forecastLine (some .boolean) "forecastLine") (o : Nat) (x1 : Int64) (S : GS) : Go Γ E (gBsI Γ E) 3 (0, 0) 0 S [(0, vA (some o)), (1, vJ x1)] [] (f_X12_forecastLine o x1 S) := by
  unfold f_X12_forecastLine
  refine g_lload_n hO d_X12_forecastLine_0 (by rfl) 1 rfl ?_
  refine g_ldc2 hO 1835102827 d_X12_forecastLine_1 wk_X12_232 ?_
  refine g_lcmp hO d_X12_forecastLine_4 ?_
  refine g_if_eq (tgt := 13) hO d_X12_forecastLine_5.1 d_X12_forecastLine_5.2 (fun _ => ?_) (fun _ => ?_)
  · skip
    refine g_aload_n hO d_X12_forecastLine_13 (by rfl) 0 rfl ?_
    refine k_virtVs hO cl_X12 mm_X12_token lkV_X12_160 ⟨⟨Nat.le_of_ble_eq_true rfl, Nat.le_of_ble_eq_true rfl⟩, Nat.le_of_ble_eq_true rfl, Nat.le_of_ble_eq_true rfl⟩ (kn' := (0, 0)) rfl (As := []) rfl (Nat.le_of_ble_eq_true rfl) (fun o' _ => t_X12_token Γ.2.1 E o' S) d_X12_forecastLine_14 rfl (fun S2 => ?_)
    exact g_sub [0] rfl (w_X12_forecastLine_17 hO o _ _)
  · skip
    refine g_aload_n hO d_X12_forecastLine_8 (by rfl) 0 rfl ?_
    refine k_virtIs hO cl_X12 mm_X12_fails lkV_X12_152 ⟨⟨Nat.le_of_ble_eq_true rfl, Nat.le_of_ble_eq_true rfl⟩, Nat.le_of_ble_eq_true rfl, Nat.le_of_ble_eq_true rfl⟩ (kn' := (0, 0)) rfl (As := []) rfl (Nat.le_of_ble_eq_true rfl) (fun o' _ => t_X12_fails Γ.2.1 E o' S) d_X12_forecastLine_9 rfl (fun v3 S4 => ?_)
    exact g_zret hO rfl ⟨Nat.le_of_ble_eq_true rfl, Nat.le_of_ble_eq_true rfl⟩ rfl rfl d_X12_forecastLine_12.1
theorem t_X12_forecastLine (l : Launch) (E : GE) (o : Nat) (x1 : Int64) (S : GS) : ∀ a, f_X12_forecastLine o x1 S = some a → Ct l E yX12_forecastLine cX12_forecastLine 3 (some .boolean) rm_X12_forecastLine [vA (some o), vJ x1] S (some (vI a.1)) a.2 :=
  Ct_of (val := fun (b : Int32 × GS) => some (vI b.1)) (nxt := fun (b : Int32 × GS) => b.2) (by decide) (Nat.le_of_ble_eq_true rfl) (fun Γ hl hO => w_X12_forecastLine hO o x1 S)
theorem d_X12_sightLine_0 : gD cX12_sightLine 0 (.lload_n 1) 1 1 := ⟨by decide +kernel, rfl⟩
theorem d_X12_sightLine_1 : gD cX12_sightLine 1 (.ldc2_w 234) 3 4 := ⟨by decide +kernel, rfl⟩
theorem d_X12_sightLine_4 : gD cX12_sightLine 4 (.lcmp) 1 5 := ⟨by decide +kernel, rfl⟩
theorem d_X12_sightLine_5 : gD cX12_sightLine 5 (.ifCond .eq 24) 3 8 ∧ ((5 : Nat) : Int) + 24 = ((29 : Nat) : Int) := ⟨⟨by decide +kernel, rfl⟩, by decide⟩
theorem d_X12_sightLine_8 : gD cX12_sightLine 8 (.lload_n 1) 1 9 := ⟨by decide +kernel, rfl⟩
theorem d_X12_sightLine_9 : gD cX12_sightLine 9 (.ldc2_w 236) 3 12 := ⟨by decide +kernel, rfl⟩
theorem d_X12_sightLine_12 : gD cX12_sightLine 12 (.lcmp) 1 13 := ⟨by decide +kernel, rfl⟩
theorem d_X12_sightLine_13 : gD cX12_sightLine 13 (.ifCond .eq 16) 3 16 ∧ ((13 : Nat) : Int) + 16 = ((29 : Nat) : Int) := ⟨⟨by decide +kernel, rfl⟩, by decide⟩
theorem d_X12_sightLine_16 : gD cX12_sightLine 16 (.lload_n 1) 1 17 := ⟨by decide +kernel, rfl⟩
theorem d_X12_sightLine_17 : gD cX12_sightLine 17 (.ldc2_w 238) 3 20 := ⟨by decide +kernel, rfl⟩
theorem d_X12_sightLine_20 : gD cX12_sightLine 20 (.lcmp) 1 21 := ⟨by decide +kernel, rfl⟩
theorem d_X12_sightLine_21 : gD cX12_sightLine 21 (.ifCond .eq 8) 3 24 ∧ ((21 : Nat) : Int) + 8 = ((29 : Nat) : Int) := ⟨⟨by decide +kernel, rfl⟩, by decide⟩
theorem d_X12_sightLine_24 : gD cX12_sightLine 24 (.aload_n 0) 1 25 := ⟨by decide +kernel, rfl⟩
theorem d_X12_sightLine_25 : gD cX12_sightLine 25 (.invokevirtual 152) 3 28 := ⟨by decide +kernel, rfl⟩
theorem d_X12_sightLine_28 : gD cX12_sightLine 28 (.ireturn) 1 29 := ⟨by decide +kernel, rfl⟩
theorem d_X12_sightLine_29 : gD cX12_sightLine 29 (.lload_n 1) 1 30 := ⟨by decide +kernel, rfl⟩
theorem d_X12_sightLine_30 : gD cX12_sightLine 30 (.ldc2_w 238) 3 33 := ⟨by decide +kernel, rfl⟩
theorem d_X12_sightLine_33 : gD cX12_sightLine 33 (.lcmp) 1 34 := ⟨by decide +kernel, rfl⟩
theorem d_X12_sightLine_34 : gD cX12_sightLine 34 (.ifCond .ne 7) 3 37 ∧ ((34 : Nat) : Int) + 7 = ((41 : Nat) : Int) := ⟨⟨by decide +kernel, rfl⟩, by decide⟩
theorem d_X12_sightLine_37 : gD cX12_sightLine 37 (.iconst 1) 1 38 := ⟨by decide +kernel, rfl⟩
theorem d_X12_sightLine_38 : decode cX12_sightLine 38 = .ok (.goto 4, 3) ∧ ((38 : Nat) : Int) + 4 = ((42 : Nat) : Int) := ⟨by decide +kernel, by decide⟩
theorem d_X12_sightLine_41 : gD cX12_sightLine 41 (.iconst 0) 1 42 := ⟨by decide +kernel, rfl⟩
theorem d_X12_sightLine_42 : gD cX12_sightLine 42 (.istore 4) 2 44 := ⟨by decide +kernel, rfl⟩
theorem d_X12_sightLine_44 : gD cX12_sightLine 44 (.aload_n 0) 1 45 := ⟨by decide +kernel, rfl⟩
theorem d_X12_sightLine_45 : gD cX12_sightLine 45 (.iload 4) 2 47 := ⟨by decide +kernel, rfl⟩
theorem d_X12_sightLine_47 : gD cX12_sightLine 47 (.ifCond .eq 7) 3 50 ∧ ((47 : Nat) : Int) + 7 = ((54 : Nat) : Int) := ⟨⟨by decide +kernel, rfl⟩, by decide⟩
theorem d_X12_sightLine_50 : gD cX12_sightLine 50 (.iconst 1) 1 51 := ⟨by decide +kernel, rfl⟩
theorem d_X12_sightLine_51 : decode cX12_sightLine 51 = .ok (.goto 4, 3) ∧ ((51 : Nat) : Int) + 4 = ((55 : Nat) : Int) := ⟨by decide +kernel, by decide⟩
theorem d_X12_sightLine_54 : gD cX12_sightLine 54 (.iconst 0) 1 55 := ⟨by decide +kernel, rfl⟩
theorem d_X12_sightLine_55 : gD cX12_sightLine 55 (.iload 4) 2 57 := ⟨by decide +kernel, rfl⟩
theorem d_X12_sightLine_57 : gD cX12_sightLine 57 (.ifCond .eq 8) 3 60 ∧ ((57 : Nat) : Int) + 8 = ((65 : Nat) : Int) := ⟨⟨by decide +kernel, rfl⟩, by decide⟩
theorem d_X12_sightLine_60 : gD cX12_sightLine 60 (.bipush 20) 2 62 := ⟨by decide +kernel, rfl⟩
theorem d_X12_sightLine_62 : decode cX12_sightLine 62 = .ok (.goto 5, 3) ∧ ((62 : Nat) : Int) + 5 = ((67 : Nat) : Int) := ⟨by decide +kernel, by decide⟩
theorem d_X12_sightLine_65 : gD cX12_sightLine 65 (.bipush 20) 2 67 := ⟨by decide +kernel, rfl⟩
theorem d_X12_sightLine_67 : gD cX12_sightLine 67 (.iload_n 3) 1 68 := ⟨by decide +kernel, rfl⟩
theorem d_X12_sightLine_68 : gD cX12_sightLine 68 (.invokevirtual 198) 3 71 := ⟨by decide +kernel, rfl⟩
theorem d_X12_sightLine_71 : gD cX12_sightLine 71 (.aload_n 0) 1 72 := ⟨by decide +kernel, rfl⟩
theorem d_X12_sightLine_72 : gD cX12_sightLine 72 (.invokevirtual 160) 3 75 := ⟨by decide +kernel, rfl⟩
theorem d_X12_sightLine_75 : gD cX12_sightLine 75 (.aload_n 0) 1 76 := ⟨by decide +kernel, rfl⟩
theorem d_X12_sightLine_76 : gD cX12_sightLine 76 (.iconst 0) 1 77 := ⟨by decide +kernel, rfl⟩
theorem d_X12_sightLine_77 : gD cX12_sightLine 77 (.iconst 0) 1 78 := ⟨by decide +kernel, rfl⟩
theorem d_X12_sightLine_78 : gD cX12_sightLine 78 (.bipush 7) 2 80 := ⟨by decide +kernel, rfl⟩
theorem d_X12_sightLine_80 : gD cX12_sightLine 80 (.invokevirtual 167) 3 83 := ⟨by decide +kernel, rfl⟩
theorem d_X12_sightLine_83 : gD cX12_sightLine 83 (.ifCond .eq 33) 3 86 ∧ ((83 : Nat) : Int) + 33 = ((116 : Nat) : Int) := ⟨⟨by decide +kernel, rfl⟩, by decide⟩
theorem d_X12_sightLine_86 : gD cX12_sightLine 86 (.aload_n 0) 1 87 := ⟨by decide +kernel, rfl⟩
theorem d_X12_sightLine_87 : gD cX12_sightLine 87 (.iconst 1) 1 88 := ⟨by decide +kernel, rfl⟩
theorem d_X12_sightLine_88 : gD cX12_sightLine 88 (.iload 4) 2 90 := ⟨by decide +kernel, rfl⟩
theorem d_X12_sightLine_90 : gD cX12_sightLine 90 (.ifCond .eq 7) 3 93 ∧ ((90 : Nat) : Int) + 7 = ((97 : Nat) : Int) := ⟨⟨by decide +kernel, rfl⟩, by decide⟩
theorem d_X12_sightLine_93 : gD cX12_sightLine 93 (.iconst 0) 1 94 := ⟨by decide +kernel, rfl⟩
theorem d_X12_sightLine_94 : decode cX12_sightLine 94 = .ok (.goto 4, 3) ∧ ((94 : Nat) : Int) + 4 = ((98 : Nat) : Int) := ⟨by decide +kernel, by decide⟩
theorem d_X12_sightLine_97 : gD cX12_sightLine 97 (.iconst 1) 1 98 := ⟨by decide +kernel, rfl⟩
theorem d_X12_sightLine_98 : gD cX12_sightLine 98 (.iload 4) 2 100 := ⟨by decide +kernel, rfl⟩
theorem d_X12_sightLine_100 : gD cX12_sightLine 100 (.ifCond .eq 8) 3 103 ∧ ((100 : Nat) : Int) + 8 = ((108 : Nat) : Int) := ⟨⟨by decide +kernel, rfl⟩, by decide⟩
theorem d_X12_sightLine_103 : gD cX12_sightLine 103 (.bipush 60) 2 105 := ⟨by decide +kernel, rfl⟩
theorem d_X12_sightLine_105 : decode cX12_sightLine 105 = .ok (.goto 5, 3) ∧ ((105 : Nat) : Int) + 5 = ((110 : Nat) : Int) := ⟨by decide +kernel, by decide⟩
theorem d_X12_sightLine_108 : gD cX12_sightLine 108 (.bipush 16) 2 110 := ⟨by decide +kernel, rfl⟩
theorem d_X12_sightLine_110 : gD cX12_sightLine 110 (.invokevirtual 167) 3 113 := ⟨by decide +kernel, rfl⟩
theorem d_X12_sightLine_113 : gD cX12_sightLine 113 (.ifCond .ne 5) 3 116 ∧ ((113 : Nat) : Int) + 5 = ((118 : Nat) : Int) := ⟨⟨by decide +kernel, rfl⟩, by decide⟩
theorem d_X12_sightLine_116 : gD cX12_sightLine 116 (.iconst 0) 1 117 := ⟨by decide +kernel, rfl⟩
theorem d_X12_sightLine_117 : gD cX12_sightLine 117 (.ireturn) 1 118 := ⟨by decide +kernel, rfl⟩
theorem d_X12_sightLine_118 : gD cX12_sightLine 118 (.lload_n 1) 1 119 := ⟨by decide +kernel, rfl⟩
theorem d_X12_sightLine_119 : gD cX12_sightLine 119 (.lstore 5) 2 121 := ⟨by decide +kernel, rfl⟩
theorem d_X12_sightLine_121 : gD cX12_sightLine 121 (.iload 4) 2 123 := ⟨by decide +kernel, rfl⟩
theorem d_X12_sightLine_123 : gD cX12_sightLine 123 (.ifCond .eq 48) 3 126 ∧ ((123 : Nat) : Int) + 48 = ((171 : Nat) : Int) := ⟨⟨by decide +kernel, rfl⟩, by decide⟩
theorem d_X12_sightLine_126 : gD cX12_sightLine 126 (.aload_n 0) 1 127 := ⟨by decide +kernel, rfl⟩
theorem d_X12_sightLine_127 : gD cX12_sightLine 127 (.getfield 137) 3 130 := ⟨by decide +kernel, rfl⟩
theorem d_X12_sightLine_130 : gD cX12_sightLine 130 (.iconst 2) 1 131 := ⟨by decide +kernel, rfl⟩
theorem d_X12_sightLine_131 : gD cX12_sightLine 131 (.if_icmp .ne 10) 3 134 ∧ ((131 : Nat) : Int) + 10 = ((141 : Nat) : Int) := ⟨⟨by decide +kernel, rfl⟩, by decide⟩
theorem d_X12_sightLine_134 : gD cX12_sightLine 134 (.aload_n 0) 1 135 := ⟨by decide +kernel, rfl⟩
theorem d_X12_sightLine_135 : gD cX12_sightLine 135 (.getfield 133) 3 138 := ⟨by decide +kernel, rfl⟩
theorem d_X12_sightLine_138 : decode cX12_sightLine 138 = .ok (.goto 4, 3) ∧ ((138 : Nat) : Int) + 4 = ((142 : Nat) : Int) := ⟨by decide +kernel, by decide⟩
theorem d_X12_sightLine_141 : gD cX12_sightLine 141 (.lconst 0) 1 142 := ⟨by decide +kernel, rfl⟩
theorem d_X12_sightLine_142 : gD cX12_sightLine 142 (.lstore 5) 2 144 := ⟨by decide +kernel, rfl⟩
theorem d_X12_sightLine_144 : gD cX12_sightLine 144 (.lload 5) 2 146 := ⟨by decide +kernel, rfl⟩
theorem d_X12_sightLine_146 : gD cX12_sightLine 146 (.ldc2_w 234) 3 149 := ⟨by decide +kernel, rfl⟩
theorem d_X12_sightLine_149 : gD cX12_sightLine 149 (.lcmp) 1 150 := ⟨by decide +kernel, rfl⟩
theorem d_X12_sightLine_150 : gD cX12_sightLine 150 (.ifCond .eq 17) 3 153 ∧ ((150 : Nat) : Int) + 17 = ((167 : Nat) : Int) := ⟨⟨by decide +kernel, rfl⟩, by decide⟩
theorem d_X12_sightLine_153 : gD cX12_sightLine 153 (.lload 5) 2 155 := ⟨by decide +kernel, rfl⟩
theorem d_X12_sightLine_155 : gD cX12_sightLine 155 (.ldc2_w 236) 3 158 := ⟨by decide +kernel, rfl⟩
theorem d_X12_sightLine_158 : gD cX12_sightLine 158 (.lcmp) 1 159 := ⟨by decide +kernel, rfl⟩
theorem d_X12_sightLine_159 : gD cX12_sightLine 159 (.ifCond .eq 8) 3 162 ∧ ((159 : Nat) : Int) + 8 = ((167 : Nat) : Int) := ⟨⟨by decide +kernel, rfl⟩, by decide⟩
theorem d_X12_sightLine_162 : gD cX12_sightLine 162 (.aload_n 0) 1 163 := ⟨by decide +kernel, rfl⟩
theorem d_X12_sightLine_163 : gD cX12_sightLine 163 (.invokevirtual 152) 3 166 := ⟨by decide +kernel, rfl⟩
theorem d_X12_sightLine_166 : gD cX12_sightLine 166 (.ireturn) 1 167 := ⟨by decide +kernel, rfl⟩
theorem d_X12_sightLine_167 : gD cX12_sightLine 167 (.aload_n 0) 1 168 := ⟨by decide +kernel, rfl⟩
theorem d_X12_sightLine_168 : gD cX12_sightLine 168 (.invokevirtual 160) 3 171 := ⟨by decide +kernel, rfl⟩
theorem d_X12_sightLine_171 : gD cX12_sightLine 171 (.aload_n 0) 1 172 := ⟨by decide +kernel, rfl⟩
theorem d_X12_sightLine_172 : gD cX12_sightLine 172 (.getfield 47) 3 175 := ⟨by decide +kernel, rfl⟩
theorem d_X12_sightLine_175 : gD cX12_sightLine 175 (.iconst 2) 1 176 := ⟨by decide +kernel, rfl⟩
theorem d_X12_sightLine_176 : gD cX12_sightLine 176 (.lload 5) 2 178 := ⟨by decide +kernel, rfl⟩
theorem d_X12_sightLine_178 : gD cX12_sightLine 178 (.ldc2_w 234) 3 181 := ⟨by decide +kernel, rfl⟩
theorem d_X12_sightLine_181 : gD cX12_sightLine 181 (.lcmp) 1 182 := ⟨by decide +kernel, rfl⟩
theorem d_X12_sightLine_182 : gD cX12_sightLine 182 (.ifCond .ne 7) 3 185 ∧ ((182 : Nat) : Int) + 7 = ((189 : Nat) : Int) := ⟨⟨by decide +kernel, rfl⟩, by decide⟩
theorem d_X12_sightLine_185 : gD cX12_sightLine 185 (.iconst 1) 1 186 := ⟨by decide +kernel, rfl⟩
theorem d_X12_sightLine_186 : decode cX12_sightLine 186 = .ok (.goto 4, 3) ∧ ((186 : Nat) : Int) + 4 = ((190 : Nat) : Int) := ⟨by decide +kernel, by decide⟩
theorem d_X12_sightLine_189 : gD cX12_sightLine 189 (.iconst 0) 1 190 := ⟨by decide +kernel, rfl⟩
theorem d_X12_sightLine_190 : gD cX12_sightLine 190 (.iastore) 1 191 := ⟨by decide +kernel, rfl⟩
theorem d_X12_sightLine_191 : gD cX12_sightLine 191 (.iload 4) 2 193 := ⟨by decide +kernel, rfl⟩
theorem d_X12_sightLine_193 : gD cX12_sightLine 193 (.ifCond .eq 16) 3 196 ∧ ((193 : Nat) : Int) + 16 = ((209 : Nat) : Int) := ⟨⟨by decide +kernel, rfl⟩, by decide⟩
theorem d_X12_sightLine_196 : gD cX12_sightLine 196 (.aload_n 0) 1 197 := ⟨by decide +kernel, rfl⟩
theorem d_X12_sightLine_197 : gD cX12_sightLine 197 (.iconst 1) 1 198 := ⟨by decide +kernel, rfl⟩
theorem d_X12_sightLine_198 : gD cX12_sightLine 198 (.bipush 62) 2 200 := ⟨by decide +kernel, rfl⟩
theorem d_X12_sightLine_200 : gD cX12_sightLine 200 (.iconst 3) 1 201 := ⟨by decide +kernel, rfl⟩
theorem d_X12_sightLine_201 : gD cX12_sightLine 201 (.bipush 20) 2 203 := ⟨by decide +kernel, rfl⟩
theorem d_X12_sightLine_203 : gD cX12_sightLine 203 (.invokevirtual 177) 3 206 := ⟨by decide +kernel, rfl⟩
theorem d_X12_sightLine_206 : decode cX12_sightLine 206 = .ok (.goto 12, 3) ∧ ((206 : Nat) : Int) + 12 = ((218 : Nat) : Int) := ⟨by decide +kernel, by decide⟩
theorem d_X12_sightLine_209 : gD cX12_sightLine 209 (.aload_n 0) 1 210 := ⟨by decide +kernel, rfl⟩
theorem d_X12_sightLine_210 : gD cX12_sightLine 210 (.iconst 0) 1 211 := ⟨by decide +kernel, rfl⟩
theorem d_X12_sightLine_211 : gD cX12_sightLine 211 (.iconst 2) 1 212 := ⟨by decide +kernel, rfl⟩
theorem d_X12_sightLine_212 : gD cX12_sightLine 212 (.iconst 3) 1 213 := ⟨by decide +kernel, rfl⟩
theorem d_X12_sightLine_213 : gD cX12_sightLine 213 (.bipush 20) 2 215 := ⟨by decide +kernel, rfl⟩
theorem d_X12_sightLine_215 : gD cX12_sightLine 215 (.invokevirtual 177) 3 218 := ⟨by decide +kernel, rfl⟩
theorem d_X12_sightLine_218 : gD cX12_sightLine 218 (.iconst 1) 1 219 := ⟨by decide +kernel, rfl⟩
theorem d_X12_sightLine_219 : gD cX12_sightLine 219 (.ireturn) 1 220 := ⟨by decide +kernel, rfl⟩
abbrev rm_X12_sightLine : Room := { frames := 4, cells := 0, slots := 0, locals := 91 }
set_option maxRecDepth 20000 in
theorem w_X12_sightLine_190 {Γ : GC} {E : GE} (hO : gOk Γ E cX12_sightLine RX12 7 rm_X12_sightLine (some .boolean) "sightLine") (o : Nat) (x4 : Int32) (y0 : Option Nat) (y1 : Int32) (y2 : Int32) (S : GS) : Go Γ E (gBsI Γ E) 7 (0, 0) 190 S [(0, vA (some o)), (4, vI x4)] [vI y2, vI y1, vA y0] (f_X12_sightLine_190 o x4 y0 y1 y2 S) := by
  unfold f_X12_sightLine_190
  refine h_iast hO d_X12_sightLine_190 (fun S1 => ?_)
  refine g_iload hO d_X12_sightLine_191 1 rfl ?_
  refine g_if_eq (tgt := 209) hO d_X12_sightLine_193.1 d_X12_sightLine_193.2 (fun _ => ?_) (fun _ => ?_)
  · skip
    refine g_aload_n hO d_X12_sightLine_209 (by rfl) 0 rfl ?_
    refine g_iconst hO 0 d_X12_sightLine_210 (by decide) ?_
    refine g_iconst hO 2 d_X12_sightLine_211 (by decide) ?_
    refine g_iconst hO 3 d_X12_sightLine_212 (by decide) ?_
    refine g_bipush hO 20 d_X12_sightLine_213 (by decide) ?_
    refine k_virtVs hO cl_X12 mm_X12_keep lkV_X12_177 ⟨⟨Nat.le_of_ble_eq_true rfl, Nat.le_of_ble_eq_true rfl⟩, Nat.le_of_ble_eq_true rfl, Nat.le_of_ble_eq_true rfl⟩ (kn' := (0, 0)) rfl (As := [vI 0, vI 2, vI 3, vI 20]) rfl (Nat.le_of_ble_eq_true rfl) (fun o' _ => t_X12_keep Γ.2.1 E o' 0 2 3 20 S1) d_X12_sightLine_215 rfl (fun S3 => ?_)
    refine g_iconst hO 1 d_X12_sightLine_218 (by decide) ?_
    exact g_ret hO rfl rfl ⟨Nat.le_of_ble_eq_true rfl, Nat.le_of_ble_eq_true rfl⟩ rfl rfl d_X12_sightLine_219.1
  · skip
    refine g_aload_n hO d_X12_sightLine_196 (by rfl) 0 rfl ?_
    refine g_iconst hO 1 d_X12_sightLine_197 (by decide) ?_
    refine g_bipush hO 62 d_X12_sightLine_198 (by decide) ?_
    refine g_iconst hO 3 d_X12_sightLine_200 (by decide) ?_
    refine g_bipush hO 20 d_X12_sightLine_201 (by decide) ?_
    refine k_virtVs hO cl_X12 mm_X12_keep lkV_X12_177 ⟨⟨Nat.le_of_ble_eq_true rfl, Nat.le_of_ble_eq_true rfl⟩, Nat.le_of_ble_eq_true rfl, Nat.le_of_ble_eq_true rfl⟩ (kn' := (0, 0)) rfl (As := [vI 1, vI 62, vI 3, vI 20]) rfl (Nat.le_of_ble_eq_true rfl) (fun o' _ => t_X12_keep Γ.2.1 E o' 1 62 3 20 S1) d_X12_sightLine_203 rfl (fun S5 => ?_)
    refine g_goto (tgt := 218) hO d_X12_sightLine_206.1 d_X12_sightLine_206.2 ?_
    refine g_iconst hO 1 d_X12_sightLine_218 (by decide) ?_
    exact g_ret hO rfl rfl ⟨Nat.le_of_ble_eq_true rfl, Nat.le_of_ble_eq_true rfl⟩ rfl rfl d_X12_sightLine_219.1
set_option maxRecDepth 20000 in
theorem w_X12_sightLine_171 {Γ : GC} {E : GE} (hO : gOk Γ E cX12_sightLine RX12 7 rm_X12_sightLine (some .boolean) "sightLine") (o : Nat) (x4 : Int32) (x5 : Int64) (S : GS) : Go Γ E (gBsI Γ E) 7 (0, 0) 171 S [(0, vA (some o)), (4, vI x4), (5, vJ x5)] [] (f_X12_sightLine_171 o x4 x5 S) := by
  unfold f_X12_sightLine_171
  refine g_aload_n hO d_X12_sightLine_171 (by rfl) 0 rfl ?_
  refine h_getR hO cl_X12 22 rfl wf_X12_47 d_X12_sightLine_172 (fun v1 => ?_)
  refine g_iconst hO 2 d_X12_sightLine_175 (by decide) ?_
  refine g_lload hO d_X12_sightLine_176 2 rfl ?_
  refine g_ldc2 hO 1717922924 d_X12_sightLine_178 wk_X12_234 ?_
  refine g_lcmp hO d_X12_sightLine_181 ?_
  refine g_if_ne (tgt := 189) hO d_X12_sightLine_182.1 d_X12_sightLine_182.2 (fun _ => ?_) (fun _ => ?_)
  · skip
    refine g_iconst hO 1 d_X12_sightLine_185 (by decide) ?_
    refine g_goto (tgt := 190) hO d_X12_sightLine_186.1 d_X12_sightLine_186.2 ?_
    exact g_sub [0, 1] rfl (w_X12_sightLine_190 hO o _ _ _ _ _)
  · skip
    refine g_iconst hO 0 d_X12_sightLine_189 (by decide) ?_
    exact g_sub [0, 1] rfl (w_X12_sightLine_190 hO o _ _ _ _ _)
set_option maxRecDepth 20000 in
theorem w_X12_sightLine_167 {Γ : GC} {E : GE} (hO : gOk Γ E cX12_sightLine RX12 7 rm_X12_sightLine (some .boolean) "sightLine") (o : Nat) (x4 : Int32) (x5 : Int64) (S : GS) : Go Γ E (gBsI Γ E) 7 (0, 0) 167 S [(0, vA (some o)), (4, vI x4), (5, vJ x5)] [] (f_X12_sightLine_167 o x4 x5 S) := by
  unfold f_X12_sightLine_167
  refine g_aload_n hO d_X12_sightLine_167 (by rfl) 0 rfl ?_
  refine k_virtVs hO cl_X12 mm_X12_token lkV_X12_160 ⟨⟨Nat.le_of_ble_eq_true rfl, Nat.le_of_ble_eq_true rfl⟩, Nat.le_of_ble_eq_true rfl, Nat.le_of_ble_eq_true rfl⟩ (kn' := (0, 0)) rfl (As := []) rfl (Nat.le_of_ble_eq_true rfl) (fun o' _ => t_X12_token Γ.2.1 E o' S) d_X12_sightLine_168 rfl (fun S2 => ?_)
  exact g_sub [0, 1, 2] rfl (w_X12_sightLine_171 hO o _ _ _)
set_option maxRecDepth 20000 in
theorem w_X12_sightLine_142 {Γ : GC} {E : GE} (hO : gOk Γ E cX12_sightLine RX12 7 rm_X12_sightLine (some .boolean) "sightLine") (o : Nat) (x4 : Int32) (y0 : Int64) (S : GS) : Go Γ E (gBsI Γ E) 7 (0, 0) 142 S [(0, vA (some o)), (4, vI x4)] [vJ y0] (f_X12_sightLine_142 o x4 y0 S) := by
  unfold f_X12_sightLine_142
  refine g_lstore (lv' := [(5, vJ y0), (0, vA (some o)), (4, vI x4)]) hO d_X12_sightLine_142 (by decide) rfl ?_
  refine g_lload hO d_X12_sightLine_144 0 rfl ?_
  refine g_ldc2 hO 1717922924 d_X12_sightLine_146 wk_X12_234 ?_
  refine g_lcmp hO d_X12_sightLine_149 ?_
  refine g_if_eq (tgt := 167) hO d_X12_sightLine_150.1 d_X12_sightLine_150.2 (fun _ => ?_) (fun _ => ?_)
  · skip
    exact g_sub [1, 2, 0] rfl (w_X12_sightLine_167 hO o _ _ _)
  · skip
    refine g_lload hO d_X12_sightLine_153 0 rfl ?_
    refine g_ldc2 hO 495874699108 d_X12_sightLine_155 wk_X12_236 ?_
    refine g_lcmp hO d_X12_sightLine_158 ?_
    refine g_if_eq (tgt := 167) hO d_X12_sightLine_159.1 d_X12_sightLine_159.2 (fun _ => ?_) (fun _ => ?_)
    · skip
      exact g_sub [1, 2, 0] rfl (w_X12_sightLine_167 hO o _ _ _)
    · skip
      refine g_aload_n hO d_X12_sightLine_162 (by rfl) 1 rfl ?_
      refine k_virtIs hO cl_X12 mm_X12_fails lkV_X12_152 ⟨⟨Nat.le_of_ble_eq_true rfl, Nat.le_of_ble_eq_true rfl⟩, Nat.le_of_ble_eq_true rfl, Nat.le_of_ble_eq_true rfl⟩ (kn' := (0, 0)) rfl (As := []) rfl (Nat.le_of_ble_eq_true rfl) (fun o' _ => t_X12_fails Γ.2.1 E o' S) d_X12_sightLine_163 rfl (fun v1 S2 => ?_)
      exact g_zret hO rfl ⟨Nat.le_of_ble_eq_true rfl, Nat.le_of_ble_eq_true rfl⟩ rfl rfl d_X12_sightLine_166.1
set_option maxRecDepth 20000 in
theorem w_X12_sightLine_110 {Γ : GC} {E : GE} (hO : gOk Γ E cX12_sightLine RX12 7 rm_X12_sightLine (some .boolean) "sightLine") (o : Nat) (x1 : Int64) (x4 : Int32) (y0 : Option Nat) (y1 : Int32) (y2 : Int32) (y3 : Int32) (S : GS) : Go Γ E (gBsI Γ E) 7 (0, 0) 110 S [(0, vA (some o)), (1, vJ x1), (4, vI x4)] [vI y3, vI y2, vI y1, vA y0] (f_X12_sightLine_110 o x1 x4 y0 y1 y2 y3 S) := by
  unfold f_X12_sightLine_110
  refine k_virtIs hO cl_X12 mm_X12_take lkV_X12_167 ⟨⟨Nat.le_of_ble_eq_true rfl, Nat.le_of_ble_eq_true rfl⟩, Nat.le_of_ble_eq_true rfl, Nat.le_of_ble_eq_true rfl⟩ (kn' := (0, 0)) rfl (As := [vI y1, vI y2, vI y3]) rfl (Nat.le_of_ble_eq_true rfl) (fun o' _ => t_X12_take Γ.2.1 E o' y1 y2 y3 S) d_X12_sightLine_110 rfl (fun v1 S2 => ?_)
  refine g_if_ne (tgt := 118) hO d_X12_sightLine_113.1 d_X12_sightLine_113.2 (fun _ => ?_) (fun _ => ?_)
  · skip
    refine g_iconst hO 0 d_X12_sightLine_116 (by decide) ?_
    exact g_ret hO rfl rfl ⟨Nat.le_of_ble_eq_true rfl, Nat.le_of_ble_eq_true rfl⟩ rfl rfl d_X12_sightLine_117.1
  · skip
    refine g_lload_n hO d_X12_sightLine_118 (by rfl) 1 rfl ?_
    refine g_lstore (lv' := [(5, vJ x1), (0, vA (some o)), (1, vJ x1), (4, vI x4)]) hO d_X12_sightLine_119 (by decide) rfl ?_
    refine g_iload hO d_X12_sightLine_121 3 rfl ?_
    refine g_if_eq (tgt := 171) hO d_X12_sightLine_123.1 d_X12_sightLine_123.2 (fun _ => ?_) (fun _ => ?_)
    · skip
      exact g_sub [1, 3, 0] rfl (w_X12_sightLine_171 hO o _ _ _)
    · skip
      refine g_aload_n hO d_X12_sightLine_126 (by rfl) 1 rfl ?_
      refine h_getI hO cl_X12 15 rfl wf_X12_137 d_X12_sightLine_127 (fun v3 => ?_)
      refine g_iconst hO 2 d_X12_sightLine_130 (by decide) ?_
      refine g_ic_ne (tgt := 141) hO d_X12_sightLine_131.1 d_X12_sightLine_131.2 (fun _ => ?_) (fun _ => ?_)
      · skip
        refine g_aload_n hO d_X12_sightLine_134 (by rfl) 1 rfl ?_
        refine h_getJ hO cl_X12 17 rfl wf_X12_133 d_X12_sightLine_135 (fun v4 => ?_)
        refine g_goto (tgt := 142) hO d_X12_sightLine_138.1 d_X12_sightLine_138.2 ?_
        exact g_sub [1, 3] rfl (w_X12_sightLine_142 hO o _ _ _)
      · skip
        refine g_lconst hO 0 d_X12_sightLine_141 (by decide) ?_
        exact g_sub [1, 3] rfl (w_X12_sightLine_142 hO o _ _ _)
set_option maxRecDepth 20000 in
theorem w_X12_sightLine_98 {Γ : GC} {E : GE} (hO : gOk Γ E cX12_sightLine RX12 7 rm_X12_sightLine (some .boolean) "sightLine") (o : Nat) (x1 : Int64) (x4 : Int32) (y0 : Option Nat) (y1 : Int32) (y2 : Int32) (S : GS) : Go Γ E (gBsI Γ E) 7 (0, 0) 98 S [(0, vA (some o)), (1, vJ x1), (4, vI x4)] [vI y2, vI y1, vA y0] (f_X12_sightLine_98 o x1 x4 y0 y1 y2 S) := by
  unfold f_X12_sightLine_98
  refine g_iload hO d_X12_sightLine_98 2 rfl ?_
  refine g_if_eq (tgt := 108) hO d_X12_sightLine_100.1 d_X12_sightLine_100.2 (fun _ => ?_) (fun _ => ?_)
  · skip
    refine g_bipush hO 16 d_X12_sightLine_108 (by decide) ?_
    exact g_sub [0, 1, 2] rfl (w_X12_sightLine_110 hO o _ _ _ _ _ _ _)
  · skip
    refine g_bipush hO 60 d_X12_sightLine_103 (by decide) ?_
    refine g_goto (tgt := 110) hO d_X12_sightLine_105.1 d_X12_sightLine_105.2 ?_
    exact g_sub [0, 1, 2] rfl (w_X12_sightLine_110 hO o _ _ _ _ _ _ _)
set_option maxRecDepth 20000 in
theorem w_X12_sightLine_67 {Γ : GC} {E : GE} (hO : gOk Γ E cX12_sightLine RX12 7 rm_X12_sightLine (some .boolean) "sightLine") (o : Nat) (x1 : Int64) (x3 : Int32) (x4 : Int32) (y0 : Option Nat) (y1 : Int32) (y2 : Int32) (S : GS) : Go Γ E (gBsI Γ E) 7 (0, 0) 67 S [(0, vA (some o)), (1, vJ x1), (3, vI x3), (4, vI x4)] [vI y2, vI y1, vA y0] (f_X12_sightLine_67 o x1 x3 x4 y0 y1 y2 S) := by
  unfold f_X12_sightLine_67
  refine g_iload_n hO d_X12_sightLine_67 (by rfl) 2 rfl ?_
  refine k_virtVs hO cl_X12 mm_X12_full lkV_X12_198 ⟨⟨Nat.le_of_ble_eq_true rfl, Nat.le_of_ble_eq_true rfl⟩, Nat.le_of_ble_eq_true rfl, Nat.le_of_ble_eq_true rfl⟩ (kn' := (0, 0)) rfl (As := [vI y1, vI y2, vI x3]) rfl (Nat.le_of_ble_eq_true rfl) (fun o' _ => t_X12_full Γ.2.1 E o' y1 y2 x3 S) d_X12_sightLine_68 rfl (fun S2 => ?_)
  refine g_aload_n hO d_X12_sightLine_71 (by rfl) 0 rfl ?_
  refine k_virtVs hO cl_X12 mm_X12_token lkV_X12_160 ⟨⟨Nat.le_of_ble_eq_true rfl, Nat.le_of_ble_eq_true rfl⟩, Nat.le_of_ble_eq_true rfl, Nat.le_of_ble_eq_true rfl⟩ (kn' := (0, 0)) rfl (As := []) rfl (Nat.le_of_ble_eq_true rfl) (fun o' _ => t_X12_token Γ.2.1 E o' S2) d_X12_sightLine_72 rfl (fun S4 => ?_)
  refine g_aload_n hO d_X12_sightLine_75 (by rfl) 0 rfl ?_
  refine g_iconst hO 0 d_X12_sightLine_76 (by decide) ?_
  refine g_iconst hO 0 d_X12_sightLine_77 (by decide) ?_
  refine g_bipush hO 7 d_X12_sightLine_78 (by decide) ?_
  refine k_virtIs hO cl_X12 mm_X12_take lkV_X12_167 ⟨⟨Nat.le_of_ble_eq_true rfl, Nat.le_of_ble_eq_true rfl⟩, Nat.le_of_ble_eq_true rfl, Nat.le_of_ble_eq_true rfl⟩ (kn' := (0, 0)) rfl (As := [vI 0, vI 0, vI 7]) rfl (Nat.le_of_ble_eq_true rfl) (fun o' _ => t_X12_take Γ.2.1 E o' 0 0 7 S4) d_X12_sightLine_80 rfl (fun v5 S6 => ?_)
  refine g_if_eq (tgt := 116) hO d_X12_sightLine_83.1 d_X12_sightLine_83.2 (fun _ => ?_) (fun _ => ?_)
  · skip
    refine g_iconst hO 0 d_X12_sightLine_116 (by decide) ?_
    exact g_ret hO rfl rfl ⟨Nat.le_of_ble_eq_true rfl, Nat.le_of_ble_eq_true rfl⟩ rfl rfl d_X12_sightLine_117.1
  · skip
    refine g_aload_n hO d_X12_sightLine_86 (by rfl) 0 rfl ?_
    refine g_iconst hO 1 d_X12_sightLine_87 (by decide) ?_
    refine g_iload hO d_X12_sightLine_88 3 rfl ?_
    refine g_if_eq (tgt := 97) hO d_X12_sightLine_90.1 d_X12_sightLine_90.2 (fun _ => ?_) (fun _ => ?_)
    · skip
      refine g_iconst hO 1 d_X12_sightLine_97 (by decide) ?_
      exact g_sub [0, 1, 3] rfl (w_X12_sightLine_98 hO o _ _ _ _ _ _)
    · skip
      refine g_iconst hO 0 d_X12_sightLine_93 (by decide) ?_
      refine g_goto (tgt := 98) hO d_X12_sightLine_94.1 d_X12_sightLine_94.2 ?_
      exact g_sub [0, 1, 3] rfl (w_X12_sightLine_98 hO o _ _ _ _ _ _)
set_option maxRecDepth 20000 in
theorem w_X12_sightLine_55 {Γ : GC} {E : GE} (hO : gOk Γ E cX12_sightLine RX12 7 rm_X12_sightLine (some .boolean) "sightLine") (o : Nat) (x1 : Int64) (x3 : Int32) (x4 : Int32) (y0 : Option Nat) (y1 : Int32) (S : GS) : Go Γ E (gBsI Γ E) 7 (0, 0) 55 S [(0, vA (some o)), (1, vJ x1), (3, vI x3), (4, vI x4)] [vI y1, vA y0] (f_X12_sightLine_55 o x1 x3 x4 y0 y1 S) := by
  unfold f_X12_sightLine_55
  refine g_iload hO d_X12_sightLine_55 3 rfl ?_
  refine g_if_eq (tgt := 65) hO d_X12_sightLine_57.1 d_X12_sightLine_57.2 (fun _ => ?_) (fun _ => ?_)
  · skip
    refine g_bipush hO 20 d_X12_sightLine_65 (by decide) ?_
    exact g_sub [0, 1, 2, 3] rfl (w_X12_sightLine_67 hO o _ _ _ _ _ _ _)
  · skip
    refine g_bipush hO 20 d_X12_sightLine_60 (by decide) ?_
    refine g_goto (tgt := 67) hO d_X12_sightLine_62.1 d_X12_sightLine_62.2 ?_
    exact g_sub [0, 1, 2, 3] rfl (w_X12_sightLine_67 hO o _ _ _ _ _ _ _)
set_option maxRecDepth 20000 in
theorem w_X12_sightLine_42 {Γ : GC} {E : GE} (hO : gOk Γ E cX12_sightLine RX12 7 rm_X12_sightLine (some .boolean) "sightLine") (o : Nat) (x1 : Int64) (x3 : Int32) (y0 : Int32) (S : GS) : Go Γ E (gBsI Γ E) 7 (0, 0) 42 S [(0, vA (some o)), (1, vJ x1), (3, vI x3)] [vI y0] (f_X12_sightLine_42 o x1 x3 y0 S) := by
  unfold f_X12_sightLine_42
  refine g_istore (lv' := [(4, vI y0), (0, vA (some o)), (1, vJ x1), (3, vI x3)]) hO d_X12_sightLine_42 (by decide) rfl ?_
  refine g_aload_n hO d_X12_sightLine_44 (by rfl) 1 rfl ?_
  refine g_iload hO d_X12_sightLine_45 0 rfl ?_
  refine g_if_eq (tgt := 54) hO d_X12_sightLine_47.1 d_X12_sightLine_47.2 (fun _ => ?_) (fun _ => ?_)
  · skip
    refine g_iconst hO 0 d_X12_sightLine_54 (by decide) ?_
    exact g_sub [1, 2, 3, 0] rfl (w_X12_sightLine_55 hO o _ _ _ _ _ _)
  · skip
    refine g_iconst hO 1 d_X12_sightLine_50 (by decide) ?_
    refine g_goto (tgt := 55) hO d_X12_sightLine_51.1 d_X12_sightLine_51.2 ?_
    exact g_sub [1, 2, 3, 0] rfl (w_X12_sightLine_55 hO o _ _ _ _ _ _)
set_option maxRecDepth 20000 in
theorem w_X12_sightLine_29 {Γ : GC} {E : GE} (hO : gOk Γ E cX12_sightLine RX12 7 rm_X12_sightLine (some .boolean) "sightLine") (o : Nat) (x1 : Int64) (x3 : Int32) (S : GS) : Go Γ E (gBsI Γ E) 7 (0, 0) 29 S [(0, vA (some o)), (1, vJ x1), (3, vI x3)] [] (f_X12_sightLine_29 o x1 x3 S) := by
  unfold f_X12_sightLine_29
  refine g_lload_n hO d_X12_sightLine_29 (by rfl) 1 rfl ?_
  refine g_ldc2 hO 1936224116 d_X12_sightLine_30 wk_X12_238 ?_
  refine g_lcmp hO d_X12_sightLine_33 ?_
  refine g_if_ne (tgt := 41) hO d_X12_sightLine_34.1 d_X12_sightLine_34.2 (fun _ => ?_) (fun _ => ?_)
  · skip
    refine g_iconst hO 1 d_X12_sightLine_37 (by decide) ?_
    refine g_goto (tgt := 42) hO d_X12_sightLine_38.1 d_X12_sightLine_38.2 ?_
    exact g_sub [0, 1, 2] rfl (w_X12_sightLine_42 hO o _ _ _ _)
  · skip
    refine g_iconst hO 0 d_X12_sightLine_41 (by decide) ?_
    exact g_sub [0, 1, 2] rfl (w_X12_sightLine_42 hO o _ _ _ _)
set_option maxRecDepth 20000 in
theorem w_X12_sightLine {Γ : GC} {E : GE} (hO : gOk Γ E cX12_sightLine RX12 7 rm_X12_sightLine (some .boolean) "sightLine") (o : Nat) (x1 : Int64) (x3 : Int32) (S : GS) : Go Γ E (gBsI Γ E) 7 (0, 0) 0 S [(0, vA (some o)), (1, vJ x1), (3, vI x3)] [] (f_X12_sightLine o x1 x3 S) := by
  unfold f_X12_sightLine
  refine g_lload_n hO d_X12_sightLine_0 (by rfl) 1 rfl ?_
  refine g_ldc2 hO 1717922924 d_X12_sightLine_1 wk_X12_234 ?_
  refine g_lcmp hO d_X12_sightLine_4 ?_
  refine g_if_eq (tgt := 29) hO d_X12_sightLine_5.1 d_X12_sightLine_5.2 (fun _ => ?_) (fun _ => ?_)
  · skip
    exact g_sub [0, 1, 2] rfl (w_X12_sightLine_29 hO o _ _ _)
  · skip
    refine g_lload_n hO d_X12_sightLine_8 (by rfl) 1 rfl ?_
    refine g_ldc2 hO 495874699108 d_X12_sightLine_9 wk_X12_236 ?_
    refine g_lcmp hO d_X12_sightLine_12 ?_
    refine g_if_eq (tgt := 29) hO d_X12_sightLine_13.1 d_X12_sightLine_13.2 (fun _ => ?_) (fun _ => ?_)
    · skip
      exact g_sub [0, 1, 2] rfl (w_X12_sightLine_29 hO o _ _ _)
    · skip
      refine g_lload_n hO d_X12_sightLine_16 (by rfl) 1 rfl ?_
      refine g_ldc2 hO 1936224116 d_X12_sightLine_17 wk_X12_238 ?_
      refine g_lcmp hO d_X12_sightLine_20 ?_
      refine g_if_eq (tgt := 29) hO d_X12_sightLine_21.1 d_X12_sightLine_21.2 (fun _ => ?_) (fun _ => ?_)
      · skip
        exact g_sub [0, 1, 2] rfl (w_X12_sightLine_29 hO o _ _ _)
      · skip
        refine g_aload_n hO d_X12_sightLine_24 (by rfl) 0 rfl ?_
        refine k_virtIs hO cl_X12 mm_X12_fails lkV_X12_152 ⟨⟨Nat.le_of_ble_eq_true rfl, Nat.le_of_ble_eq_true rfl⟩, Nat.le_of_ble_eq_true rfl, Nat.le_of_ble_eq_true rfl⟩ (kn' := (0, 0)) rfl (As := []) rfl (Nat.le_of_ble_eq_true rfl) (fun o' _ => t_X12_fails Γ.2.1 E o' S) d_X12_sightLine_25 rfl (fun v1 S2 => ?_)
        exact g_zret hO rfl ⟨Nat.le_of_ble_eq_true rfl, Nat.le_of_ble_eq_true rfl⟩ rfl rfl d_X12_sightLine_28.1
theorem t_X12_sightLine (l : Launch) (E : GE) (o : Nat) (x1 : Int64) (x3 : Int32) (S : GS) : ∀ a, f_X12_sightLine o x1 x3 S = some a → Ct l E yX12_sightLine cX12_sightLine 7 (some .boolean) rm_X12_sightLine [vA (some o), vJ x1, vI x3] S (some (vI a.1)) a.2 :=
  Ct_of (val := fun (b : Int32 × GS) => some (vI b.1)) (nxt := fun (b : Int32 × GS) => b.2) (by decide) (Nat.le_of_ble_eq_true rfl) (fun Γ hl hO => w_X12_sightLine hO o x1 x3 S)
theorem d_X12_ledgerLine_0 : gD cX12_ledgerLine 0 (.lload_n 1) 1 1 := ⟨by decide +kernel, rfl⟩
theorem d_X12_ledgerLine_1 : gD cX12_ledgerLine 1 (.ldc2_w 240) 3 4 := ⟨by decide +kernel, rfl⟩
theorem d_X12_ledgerLine_4 : gD cX12_ledgerLine 4 (.lcmp) 1 5 := ⟨by decide +kernel, rfl⟩
theorem d_X12_ledgerLine_5 : gD cX12_ledgerLine 5 (.ifCond .eq 8) 3 8 ∧ ((5 : Nat) : Int) + 8 = ((13 : Nat) : Int) := ⟨⟨by decide +kernel, rfl⟩, by decide⟩
theorem d_X12_ledgerLine_8 : gD cX12_ledgerLine 8 (.aload_n 0) 1 9 := ⟨by decide +kernel, rfl⟩
theorem d_X12_ledgerLine_9 : gD cX12_ledgerLine 9 (.invokevirtual 152) 3 12 := ⟨by decide +kernel, rfl⟩
theorem d_X12_ledgerLine_12 : gD cX12_ledgerLine 12 (.ireturn) 1 13 := ⟨by decide +kernel, rfl⟩
theorem d_X12_ledgerLine_13 : gD cX12_ledgerLine 13 (.aload_n 0) 1 14 := ⟨by decide +kernel, rfl⟩
theorem d_X12_ledgerLine_14 : gD cX12_ledgerLine 14 (.iconst 0) 1 15 := ⟨by decide +kernel, rfl⟩
theorem d_X12_ledgerLine_15 : gD cX12_ledgerLine 15 (.bipush 30) 2 17 := ⟨by decide +kernel, rfl⟩
theorem d_X12_ledgerLine_17 : gD cX12_ledgerLine 17 (.iload_n 3) 1 18 := ⟨by decide +kernel, rfl⟩
theorem d_X12_ledgerLine_18 : gD cX12_ledgerLine 18 (.invokevirtual 198) 3 21 := ⟨by decide +kernel, rfl⟩
theorem d_X12_ledgerLine_21 : gD cX12_ledgerLine 21 (.aload_n 0) 1 22 := ⟨by decide +kernel, rfl⟩
theorem d_X12_ledgerLine_22 : gD cX12_ledgerLine 22 (.invokevirtual 160) 3 25 := ⟨by decide +kernel, rfl⟩
theorem d_X12_ledgerLine_25 : gD cX12_ledgerLine 25 (.aload_n 0) 1 26 := ⟨by decide +kernel, rfl⟩
theorem d_X12_ledgerLine_26 : gD cX12_ledgerLine 26 (.iconst 0) 1 27 := ⟨by decide +kernel, rfl⟩
theorem d_X12_ledgerLine_27 : gD cX12_ledgerLine 27 (.iconst 0) 1 28 := ⟨by decide +kernel, rfl⟩
theorem d_X12_ledgerLine_28 : gD cX12_ledgerLine 28 (.bipush 7) 2 30 := ⟨by decide +kernel, rfl⟩
theorem d_X12_ledgerLine_30 : gD cX12_ledgerLine 30 (.invokevirtual 167) 3 33 := ⟨by decide +kernel, rfl⟩
theorem d_X12_ledgerLine_33 : gD cX12_ledgerLine 33 (.ifCond .eq 31) 3 36 ∧ ((33 : Nat) : Int) + 31 = ((64 : Nat) : Int) := ⟨⟨by decide +kernel, rfl⟩, by decide⟩
theorem d_X12_ledgerLine_36 : gD cX12_ledgerLine 36 (.aload_n 0) 1 37 := ⟨by decide +kernel, rfl⟩
theorem d_X12_ledgerLine_37 : gD cX12_ledgerLine 37 (.iconst 1) 1 38 := ⟨by decide +kernel, rfl⟩
theorem d_X12_ledgerLine_38 : gD cX12_ledgerLine 38 (.iconst 0) 1 39 := ⟨by decide +kernel, rfl⟩
theorem d_X12_ledgerLine_39 : gD cX12_ledgerLine 39 (.bipush 7) 2 41 := ⟨by decide +kernel, rfl⟩
theorem d_X12_ledgerLine_41 : gD cX12_ledgerLine 41 (.aload_n 0) 1 42 := ⟨by decide +kernel, rfl⟩
theorem d_X12_ledgerLine_42 : gD cX12_ledgerLine 42 (.getfield 47) 3 45 := ⟨by decide +kernel, rfl⟩
theorem d_X12_ledgerLine_45 : gD cX12_ledgerLine 45 (.iconst 0) 1 46 := ⟨by decide +kernel, rfl⟩
theorem d_X12_ledgerLine_46 : gD cX12_ledgerLine 46 (.iaload) 1 47 := ⟨by decide +kernel, rfl⟩
theorem d_X12_ledgerLine_47 : gD cX12_ledgerLine 47 (.invokevirtual 163) 3 50 := ⟨by decide +kernel, rfl⟩
theorem d_X12_ledgerLine_50 : gD cX12_ledgerLine 50 (.ifCond .eq 14) 3 53 ∧ ((50 : Nat) : Int) + 14 = ((64 : Nat) : Int) := ⟨⟨by decide +kernel, rfl⟩, by decide⟩
theorem d_X12_ledgerLine_53 : gD cX12_ledgerLine 53 (.aload_n 0) 1 54 := ⟨by decide +kernel, rfl⟩
theorem d_X12_ledgerLine_54 : gD cX12_ledgerLine 54 (.iconst 2) 1 55 := ⟨by decide +kernel, rfl⟩
theorem d_X12_ledgerLine_55 : gD cX12_ledgerLine 55 (.iconst 1) 1 56 := ⟨by decide +kernel, rfl⟩
theorem d_X12_ledgerLine_56 : gD cX12_ledgerLine 56 (.bipush 99) 2 58 := ⟨by decide +kernel, rfl⟩
theorem d_X12_ledgerLine_58 : gD cX12_ledgerLine 58 (.invokevirtual 167) 3 61 := ⟨by decide +kernel, rfl⟩
theorem d_X12_ledgerLine_61 : gD cX12_ledgerLine 61 (.ifCond .ne 5) 3 64 ∧ ((61 : Nat) : Int) + 5 = ((66 : Nat) : Int) := ⟨⟨by decide +kernel, rfl⟩, by decide⟩
theorem d_X12_ledgerLine_64 : gD cX12_ledgerLine 64 (.iconst 0) 1 65 := ⟨by decide +kernel, rfl⟩
theorem d_X12_ledgerLine_65 : gD cX12_ledgerLine 65 (.ireturn) 1 66 := ⟨by decide +kernel, rfl⟩
theorem d_X12_ledgerLine_66 : gD cX12_ledgerLine 66 (.aload_n 0) 1 67 := ⟨by decide +kernel, rfl⟩
theorem d_X12_ledgerLine_67 : gD cX12_ledgerLine 67 (.iconst 0) 1 68 := ⟨by decide +kernel, rfl⟩
theorem d_X12_ledgerLine_68 : gD cX12_ledgerLine 68 (.iconst 1) 1 69 := ⟨by decide +kernel, rfl⟩
theorem d_X12_ledgerLine_69 : gD cX12_ledgerLine 69 (.iconst 3) 1 70 := ⟨by decide +kernel, rfl⟩
theorem d_X12_ledgerLine_70 : gD cX12_ledgerLine 70 (.bipush 30) 2 72 := ⟨by decide +kernel, rfl⟩
theorem d_X12_ledgerLine_72 : gD cX12_ledgerLine 72 (.invokevirtual 177) 3 75 := ⟨by decide +kernel, rfl⟩
theorem d_X12_ledgerLine_75 : gD cX12_ledgerLine 75 (.iconst 1) 1 76 := ⟨by decide +kernel, rfl⟩
theorem d_X12_ledgerLine_76 : gD cX12_ledgerLine 76 (.ireturn) 1 77 := ⟨by decide +kernel, rfl⟩
abbrev rm_X12_ledgerLine : Room := { frames := 4, cells := 0, slots := 0, locals := 91 }
set_option maxRecDepth 20000 in
theorem w_X12_ledgerLine {Γ : GC} {E : GE} (hO : gOk Γ E cX12_ledgerLine RX12 4 rm_X12_ledgerLine (some .boolean) "ledgerLine") (o : Nat) (x1 : Int64) (x3 : Int32) (S : GS) : Go Γ E (gBsI Γ E) 4 (0, 0) 0 S [(0, vA (some o)), (1, vJ x1), (3, vI x3)] [] (f_X12_ledgerLine o x1 x3 S) := by
  unfold f_X12_ledgerLine
  refine g_lload_n hO d_X12_ledgerLine_0 (by rfl) 1 rfl ?_
  refine g_ldc2 hO 1870095731 d_X12_ledgerLine_1 wk_X12_240 ?_
  refine g_lcmp hO d_X12_ledgerLine_4 ?_
  refine g_if_eq (tgt := 13) hO d_X12_ledgerLine_5.1 d_X12_ledgerLine_5.2 (fun _ => ?_) (fun _ => ?_)
  · skip
    refine g_aload_n hO d_X12_ledgerLine_13 (by rfl) 0 rfl ?_
    refine g_iconst hO 0 d_X12_ledgerLine_14 (by decide) ?_
    refine g_bipush hO 30 d_X12_ledgerLine_15 (by decide) ?_
    refine g_iload_n hO d_X12_ledgerLine_17 (by rfl) 2 rfl ?_
    refine k_virtVs hO cl_X12 mm_X12_full lkV_X12_198 ⟨⟨Nat.le_of_ble_eq_true rfl, Nat.le_of_ble_eq_true rfl⟩, Nat.le_of_ble_eq_true rfl, Nat.le_of_ble_eq_true rfl⟩ (kn' := (0, 0)) rfl (As := [vI 0, vI 30, vI x3]) rfl (Nat.le_of_ble_eq_true rfl) (fun o' _ => t_X12_full Γ.2.1 E o' 0 30 x3 S) d_X12_ledgerLine_18 rfl (fun S2 => ?_)
    refine g_aload_n hO d_X12_ledgerLine_21 (by rfl) 0 rfl ?_
    refine k_virtVs hO cl_X12 mm_X12_token lkV_X12_160 ⟨⟨Nat.le_of_ble_eq_true rfl, Nat.le_of_ble_eq_true rfl⟩, Nat.le_of_ble_eq_true rfl, Nat.le_of_ble_eq_true rfl⟩ (kn' := (0, 0)) rfl (As := []) rfl (Nat.le_of_ble_eq_true rfl) (fun o' _ => t_X12_token Γ.2.1 E o' S2) d_X12_ledgerLine_22 rfl (fun S4 => ?_)
    refine g_aload_n hO d_X12_ledgerLine_25 (by rfl) 0 rfl ?_
    refine g_iconst hO 0 d_X12_ledgerLine_26 (by decide) ?_
    refine g_iconst hO 0 d_X12_ledgerLine_27 (by decide) ?_
    refine g_bipush hO 7 d_X12_ledgerLine_28 (by decide) ?_
    refine k_virtIs hO cl_X12 mm_X12_take lkV_X12_167 ⟨⟨Nat.le_of_ble_eq_true rfl, Nat.le_of_ble_eq_true rfl⟩, Nat.le_of_ble_eq_true rfl, Nat.le_of_ble_eq_true rfl⟩ (kn' := (0, 0)) rfl (As := [vI 0, vI 0, vI 7]) rfl (Nat.le_of_ble_eq_true rfl) (fun o' _ => t_X12_take Γ.2.1 E o' 0 0 7 S4) d_X12_ledgerLine_30 rfl (fun v5 S6 => ?_)
    refine g_if_eq (tgt := 64) hO d_X12_ledgerLine_33.1 d_X12_ledgerLine_33.2 (fun _ => ?_) (fun _ => ?_)
    · skip
      refine g_iconst hO 0 d_X12_ledgerLine_64 (by decide) ?_
      exact g_ret hO rfl rfl ⟨Nat.le_of_ble_eq_true rfl, Nat.le_of_ble_eq_true rfl⟩ rfl rfl d_X12_ledgerLine_65.1
    · skip
      refine g_aload_n hO d_X12_ledgerLine_36 (by rfl) 0 rfl ?_
      refine g_iconst hO 1 d_X12_ledgerLine_37 (by decide) ?_
      refine g_iconst hO 0 d_X12_ledgerLine_38 (by decide) ?_
      refine g_bipush hO 7 d_X12_ledgerLine_39 (by decide) ?_
      refine g_aload_n hO d_X12_ledgerLine_41 (by rfl) 0 rfl ?_
      refine h_getR hO cl_X12 22 rfl wf_X12_47 d_X12_ledgerLine_42 (fun v7 => ?_)
      refine g_iconst hO 0 d_X12_ledgerLine_45 (by decide) ?_
      refine h_iald hO d_X12_ledgerLine_46 (fun v8 => ?_)
      refine k_virtIs hO cl_X12 mm_X12_takeBut lkV_X12_163 ⟨⟨Nat.le_of_ble_eq_true rfl, Nat.le_of_ble_eq_true rfl⟩, Nat.le_of_ble_eq_true rfl, Nat.le_of_ble_eq_true rfl⟩ (kn' := (0, 0)) rfl (As := [vI 1, vI 0, vI 7, vI v8]) rfl (Nat.le_of_ble_eq_true rfl) (fun o' _ => t_X12_takeBut Γ.2.1 E o' 1 0 7 v8 S6) d_X12_ledgerLine_47 rfl (fun v9 S10 => ?_)
      refine g_if_eq (tgt := 64) hO d_X12_ledgerLine_50.1 d_X12_ledgerLine_50.2 (fun _ => ?_) (fun _ => ?_)
      · skip
        refine g_iconst hO 0 d_X12_ledgerLine_64 (by decide) ?_
        exact g_ret hO rfl rfl ⟨Nat.le_of_ble_eq_true rfl, Nat.le_of_ble_eq_true rfl⟩ rfl rfl d_X12_ledgerLine_65.1
      · skip
        refine g_aload_n hO d_X12_ledgerLine_53 (by rfl) 0 rfl ?_
        refine g_iconst hO 2 d_X12_ledgerLine_54 (by decide) ?_
        refine g_iconst hO 1 d_X12_ledgerLine_55 (by decide) ?_
        refine g_bipush hO 99 d_X12_ledgerLine_56 (by decide) ?_
        refine k_virtIs hO cl_X12 mm_X12_take lkV_X12_167 ⟨⟨Nat.le_of_ble_eq_true rfl, Nat.le_of_ble_eq_true rfl⟩, Nat.le_of_ble_eq_true rfl, Nat.le_of_ble_eq_true rfl⟩ (kn' := (0, 0)) rfl (As := [vI 2, vI 1, vI 99]) rfl (Nat.le_of_ble_eq_true rfl) (fun o' _ => t_X12_take Γ.2.1 E o' 2 1 99 S10) d_X12_ledgerLine_58 rfl (fun v11 S12 => ?_)
        refine g_if_ne (tgt := 66) hO d_X12_ledgerLine_61.1 d_X12_ledgerLine_61.2 (fun _ => ?_) (fun _ => ?_)
        · skip
          refine g_iconst hO 0 d_X12_ledgerLine_64 (by decide) ?_
          exact g_ret hO rfl rfl ⟨Nat.le_of_ble_eq_true rfl, Nat.le_of_ble_eq_true rfl⟩ rfl rfl d_X12_ledgerLine_65.1
        · skip
          refine g_aload_n hO d_X12_ledgerLine_66 (by rfl) 0 rfl ?_
          refine g_iconst hO 0 d_X12_ledgerLine_67 (by decide) ?_
          refine g_iconst hO 1 d_X12_ledgerLine_68 (by decide) ?_
          refine g_iconst hO 3 d_X12_ledgerLine_69 (by decide) ?_
          refine g_bipush hO 30 d_X12_ledgerLine_70 (by decide) ?_
          refine k_virtVs hO cl_X12 mm_X12_keep lkV_X12_177 ⟨⟨Nat.le_of_ble_eq_true rfl, Nat.le_of_ble_eq_true rfl⟩, Nat.le_of_ble_eq_true rfl, Nat.le_of_ble_eq_true rfl⟩ (kn' := (0, 0)) rfl (As := [vI 0, vI 1, vI 3, vI 30]) rfl (Nat.le_of_ble_eq_true rfl) (fun o' _ => t_X12_keep Γ.2.1 E o' 0 1 3 30 S12) d_X12_ledgerLine_72 rfl (fun S14 => ?_)
          refine g_iconst hO 1 d_X12_ledgerLine_75 (by decide) ?_
          exact g_ret hO rfl rfl ⟨Nat.le_of_ble_eq_true rfl, Nat.le_of_ble_eq_true rfl⟩ rfl rfl d_X12_ledgerLine_76.1
  · skip
    refine g_aload_n hO d_X12_ledgerLine_8 (by rfl) 0 rfl ?_
    refine k_virtIs hO cl_X12 mm_X12_fails lkV_X12_152 ⟨⟨Nat.le_of_ble_eq_true rfl, Nat.le_of_ble_eq_true rfl⟩, Nat.le_of_ble_eq_true rfl, Nat.le_of_ble_eq_true rfl⟩ (kn' := (0, 0)) rfl (As := []) rfl (Nat.le_of_ble_eq_true rfl) (fun o' _ => t_X12_fails Γ.2.1 E o' S) d_X12_ledgerLine_9 rfl (fun v15 S16 => ?_)
    exact g_zret hO rfl ⟨Nat.le_of_ble_eq_true rfl, Nat.le_of_ble_eq_true rfl⟩ rfl rfl d_X12_ledgerLine_12.1
theorem t_X12_ledgerLine (l : Launch) (E : GE) (o : Nat) (x1 : Int64) (x3 : Int32) (S : GS) : ∀ a, f_X12_ledgerLine o x1 x3 S = some a → Ct l E yX12_ledgerLine cX12_ledgerLine 4 (some .boolean) rm_X12_ledgerLine [vA (some o), vJ x1, vI x3] S (some (vI a.1)) a.2 :=
  Ct_of (val := fun (b : Int32 × GS) => some (vI b.1)) (nxt := fun (b : Int32 × GS) => b.2) (by decide) (Nat.le_of_ble_eq_true rfl) (fun Γ hl hO => w_X12_ledgerLine hO o x1 x3 S)
theorem d_X12_shiftLine_0 : gD cX12_shiftLine 0 (.lload_n 1) 1 1 := ⟨by decide +kernel, rfl⟩
theorem d_X12_shiftLine_1 : gD cX12_shiftLine 1 (.ldc2_w 242) 3 4 := ⟨by decide +kernel, rfl⟩
theorem d_X12_shiftLine_4 : gD cX12_shiftLine 4 (.lcmp) 1 5 := ⟨by decide +kernel, rfl⟩
theorem d_X12_shiftLine_5 : gD cX12_shiftLine 5 (.ifCond .eq 8) 3 8 ∧ ((5 : Nat) : Int) + 8 = ((13 : Nat) : Int) := ⟨⟨by decide +kernel, rfl⟩, by decide⟩
theorem d_X12_shiftLine_8 : gD cX12_shiftLine 8 (.aload_n 0) 1 9 := ⟨by decide +kernel, rfl⟩
theorem d_X12_shiftLine_9 : gD cX12_shiftLine 9 (.invokevirtual 152) 3 12 := ⟨by decide +kernel, rfl⟩
theorem d_X12_shiftLine_12 : gD cX12_shiftLine 12 (.ireturn) 1 13 := ⟨by decide +kernel, rfl⟩
theorem d_X12_shiftLine_13 : gD cX12_shiftLine 13 (.aload_n 0) 1 14 := ⟨by decide +kernel, rfl⟩
theorem d_X12_shiftLine_14 : gD cX12_shiftLine 14 (.iconst 0) 1 15 := ⟨by decide +kernel, rfl⟩
theorem d_X12_shiftLine_15 : gD cX12_shiftLine 15 (.bipush 10) 2 17 := ⟨by decide +kernel, rfl⟩
theorem d_X12_shiftLine_17 : gD cX12_shiftLine 17 (.iload_n 3) 1 18 := ⟨by decide +kernel, rfl⟩
theorem d_X12_shiftLine_18 : gD cX12_shiftLine 18 (.invokevirtual 198) 3 21 := ⟨by decide +kernel, rfl⟩
theorem d_X12_shiftLine_21 : gD cX12_shiftLine 21 (.aload_n 0) 1 22 := ⟨by decide +kernel, rfl⟩
theorem d_X12_shiftLine_22 : gD cX12_shiftLine 22 (.invokevirtual 160) 3 25 := ⟨by decide +kernel, rfl⟩
theorem d_X12_shiftLine_25 : gD cX12_shiftLine 25 (.aload_n 0) 1 26 := ⟨by decide +kernel, rfl⟩
theorem d_X12_shiftLine_26 : gD cX12_shiftLine 26 (.iconst 0) 1 27 := ⟨by decide +kernel, rfl⟩
theorem d_X12_shiftLine_27 : gD cX12_shiftLine 27 (.iconst 0) 1 28 := ⟨by decide +kernel, rfl⟩
theorem d_X12_shiftLine_28 : gD cX12_shiftLine 28 (.bipush 30) 2 30 := ⟨by decide +kernel, rfl⟩
theorem d_X12_shiftLine_30 : gD cX12_shiftLine 30 (.invokevirtual 167) 3 33 := ⟨by decide +kernel, rfl⟩
theorem d_X12_shiftLine_33 : gD cX12_shiftLine 33 (.ifCond .eq 19) 3 36 ∧ ((33 : Nat) : Int) + 19 = ((52 : Nat) : Int) := ⟨⟨by decide +kernel, rfl⟩, by decide⟩
theorem d_X12_shiftLine_36 : gD cX12_shiftLine 36 (.aload_n 0) 1 37 := ⟨by decide +kernel, rfl⟩
theorem d_X12_shiftLine_37 : gD cX12_shiftLine 37 (.iconst 1) 1 38 := ⟨by decide +kernel, rfl⟩
theorem d_X12_shiftLine_38 : gD cX12_shiftLine 38 (.aload_n 0) 1 39 := ⟨by decide +kernel, rfl⟩
theorem d_X12_shiftLine_39 : gD cX12_shiftLine 39 (.getfield 47) 3 42 := ⟨by decide +kernel, rfl⟩
theorem d_X12_shiftLine_42 : gD cX12_shiftLine 42 (.iconst 0) 1 43 := ⟨by decide +kernel, rfl⟩
theorem d_X12_shiftLine_43 : gD cX12_shiftLine 43 (.iaload) 1 44 := ⟨by decide +kernel, rfl⟩
theorem d_X12_shiftLine_44 : gD cX12_shiftLine 44 (.bipush 30) 2 46 := ⟨by decide +kernel, rfl⟩
theorem d_X12_shiftLine_46 : gD cX12_shiftLine 46 (.invokevirtual 167) 3 49 := ⟨by decide +kernel, rfl⟩
theorem d_X12_shiftLine_49 : gD cX12_shiftLine 49 (.ifCond .ne 5) 3 52 ∧ ((49 : Nat) : Int) + 5 = ((54 : Nat) : Int) := ⟨⟨by decide +kernel, rfl⟩, by decide⟩
theorem d_X12_shiftLine_52 : gD cX12_shiftLine 52 (.iconst 0) 1 53 := ⟨by decide +kernel, rfl⟩
theorem d_X12_shiftLine_53 : gD cX12_shiftLine 53 (.ireturn) 1 54 := ⟨by decide +kernel, rfl⟩
theorem d_X12_shiftLine_54 : gD cX12_shiftLine 54 (.aload_n 0) 1 55 := ⟨by decide +kernel, rfl⟩
theorem d_X12_shiftLine_55 : gD cX12_shiftLine 55 (.iconst 0) 1 56 := ⟨by decide +kernel, rfl⟩
theorem d_X12_shiftLine_56 : gD cX12_shiftLine 56 (.iconst 1) 1 57 := ⟨by decide +kernel, rfl⟩
theorem d_X12_shiftLine_57 : gD cX12_shiftLine 57 (.iconst 2) 1 58 := ⟨by decide +kernel, rfl⟩
theorem d_X12_shiftLine_58 : gD cX12_shiftLine 58 (.bipush 10) 2 60 := ⟨by decide +kernel, rfl⟩
theorem d_X12_shiftLine_60 : gD cX12_shiftLine 60 (.invokevirtual 177) 3 63 := ⟨by decide +kernel, rfl⟩
theorem d_X12_shiftLine_63 : gD cX12_shiftLine 63 (.iconst 1) 1 64 := ⟨by decide +kernel, rfl⟩
theorem d_X12_shiftLine_64 : gD cX12_shiftLine 64 (.ireturn) 1 65 := ⟨by decide +kernel, rfl⟩
abbrev rm_X12_shiftLine : Room := { frames := 4, cells := 0, slots := 0, locals := 91 }
set_option maxRecDepth 20000 in
theorem w_X12_shiftLine {Γ : GC} {E : GE} (hO : gOk Γ E cX12_shiftLine RX12 4 rm_X12_shiftLine (some .boolean) "shiftLine") (o : Nat) (x1 : Int64) (x3 : Int32) (S : GS) : Go Γ E (gBsI Γ E) 4 (0, 0) 0 S [(0, vA (some o)), (1, vJ x1), (3, vI x3)] [] (f_X12_shiftLine o x1 x3 S) := by
  unfold f_X12_shiftLine
  refine g_lload_n hO d_X12_shiftLine_0 (by rfl) 1 rfl ?_
  refine g_ldc2 hO 1835100516 d_X12_shiftLine_1 wk_X12_242 ?_
  refine g_lcmp hO d_X12_shiftLine_4 ?_
  refine g_if_eq (tgt := 13) hO d_X12_shiftLine_5.1 d_X12_shiftLine_5.2 (fun _ => ?_) (fun _ => ?_)
  · skip
    refine g_aload_n hO d_X12_shiftLine_13 (by rfl) 0 rfl ?_
    refine g_iconst hO 0 d_X12_shiftLine_14 (by decide) ?_
    refine g_bipush hO 10 d_X12_shiftLine_15 (by decide) ?_
    refine g_iload_n hO d_X12_shiftLine_17 (by rfl) 2 rfl ?_
    refine k_virtVs hO cl_X12 mm_X12_full lkV_X12_198 ⟨⟨Nat.le_of_ble_eq_true rfl, Nat.le_of_ble_eq_true rfl⟩, Nat.le_of_ble_eq_true rfl, Nat.le_of_ble_eq_true rfl⟩ (kn' := (0, 0)) rfl (As := [vI 0, vI 10, vI x3]) rfl (Nat.le_of_ble_eq_true rfl) (fun o' _ => t_X12_full Γ.2.1 E o' 0 10 x3 S) d_X12_shiftLine_18 rfl (fun S2 => ?_)
    refine g_aload_n hO d_X12_shiftLine_21 (by rfl) 0 rfl ?_
    refine k_virtVs hO cl_X12 mm_X12_token lkV_X12_160 ⟨⟨Nat.le_of_ble_eq_true rfl, Nat.le_of_ble_eq_true rfl⟩, Nat.le_of_ble_eq_true rfl, Nat.le_of_ble_eq_true rfl⟩ (kn' := (0, 0)) rfl (As := []) rfl (Nat.le_of_ble_eq_true rfl) (fun o' _ => t_X12_token Γ.2.1 E o' S2) d_X12_shiftLine_22 rfl (fun S4 => ?_)
    refine g_aload_n hO d_X12_shiftLine_25 (by rfl) 0 rfl ?_
    refine g_iconst hO 0 d_X12_shiftLine_26 (by decide) ?_
    refine g_iconst hO 0 d_X12_shiftLine_27 (by decide) ?_
    refine g_bipush hO 30 d_X12_shiftLine_28 (by decide) ?_
    refine k_virtIs hO cl_X12 mm_X12_take lkV_X12_167 ⟨⟨Nat.le_of_ble_eq_true rfl, Nat.le_of_ble_eq_true rfl⟩, Nat.le_of_ble_eq_true rfl, Nat.le_of_ble_eq_true rfl⟩ (kn' := (0, 0)) rfl (As := [vI 0, vI 0, vI 30]) rfl (Nat.le_of_ble_eq_true rfl) (fun o' _ => t_X12_take Γ.2.1 E o' 0 0 30 S4) d_X12_shiftLine_30 rfl (fun v5 S6 => ?_)
    refine g_if_eq (tgt := 52) hO d_X12_shiftLine_33.1 d_X12_shiftLine_33.2 (fun _ => ?_) (fun _ => ?_)
    · skip
      refine g_iconst hO 0 d_X12_shiftLine_52 (by decide) ?_
      exact g_ret hO rfl rfl ⟨Nat.le_of_ble_eq_true rfl, Nat.le_of_ble_eq_true rfl⟩ rfl rfl d_X12_shiftLine_53.1
    · skip
      refine g_aload_n hO d_X12_shiftLine_36 (by rfl) 0 rfl ?_
      refine g_iconst hO 1 d_X12_shiftLine_37 (by decide) ?_
      refine g_aload_n hO d_X12_shiftLine_38 (by rfl) 0 rfl ?_
      refine h_getR hO cl_X12 22 rfl wf_X12_47 d_X12_shiftLine_39 (fun v7 => ?_)
      refine g_iconst hO 0 d_X12_shiftLine_42 (by decide) ?_
      refine h_iald hO d_X12_shiftLine_43 (fun v8 => ?_)
      refine g_bipush hO 30 d_X12_shiftLine_44 (by decide) ?_
      refine k_virtIs hO cl_X12 mm_X12_take lkV_X12_167 ⟨⟨Nat.le_of_ble_eq_true rfl, Nat.le_of_ble_eq_true rfl⟩, Nat.le_of_ble_eq_true rfl, Nat.le_of_ble_eq_true rfl⟩ (kn' := (0, 0)) rfl (As := [vI 1, vI v8, vI 30]) rfl (Nat.le_of_ble_eq_true rfl) (fun o' _ => t_X12_take Γ.2.1 E o' 1 v8 30 S6) d_X12_shiftLine_46 rfl (fun v9 S10 => ?_)
      refine g_if_ne (tgt := 54) hO d_X12_shiftLine_49.1 d_X12_shiftLine_49.2 (fun _ => ?_) (fun _ => ?_)
      · skip
        refine g_iconst hO 0 d_X12_shiftLine_52 (by decide) ?_
        exact g_ret hO rfl rfl ⟨Nat.le_of_ble_eq_true rfl, Nat.le_of_ble_eq_true rfl⟩ rfl rfl d_X12_shiftLine_53.1
      · skip
        refine g_aload_n hO d_X12_shiftLine_54 (by rfl) 0 rfl ?_
        refine g_iconst hO 0 d_X12_shiftLine_55 (by decide) ?_
        refine g_iconst hO 1 d_X12_shiftLine_56 (by decide) ?_
        refine g_iconst hO 2 d_X12_shiftLine_57 (by decide) ?_
        refine g_bipush hO 10 d_X12_shiftLine_58 (by decide) ?_
        refine k_virtVs hO cl_X12 mm_X12_keep lkV_X12_177 ⟨⟨Nat.le_of_ble_eq_true rfl, Nat.le_of_ble_eq_true rfl⟩, Nat.le_of_ble_eq_true rfl, Nat.le_of_ble_eq_true rfl⟩ (kn' := (0, 0)) rfl (As := [vI 0, vI 1, vI 2, vI 10]) rfl (Nat.le_of_ble_eq_true rfl) (fun o' _ => t_X12_keep Γ.2.1 E o' 0 1 2 10 S10) d_X12_shiftLine_60 rfl (fun S12 => ?_)
        refine g_iconst hO 1 d_X12_shiftLine_63 (by decide) ?_
        exact g_ret hO rfl rfl ⟨Nat.le_of_ble_eq_true rfl, Nat.le_of_ble_eq_true rfl⟩ rfl rfl d_X12_shiftLine_64.1
  · skip
    refine g_aload_n hO d_X12_shiftLine_8 (by rfl) 0 rfl ?_
    refine k_virtIs hO cl_X12 mm_X12_fails lkV_X12_152 ⟨⟨Nat.le_of_ble_eq_true rfl, Nat.le_of_ble_eq_true rfl⟩, Nat.le_of_ble_eq_true rfl, Nat.le_of_ble_eq_true rfl⟩ (kn' := (0, 0)) rfl (As := []) rfl (Nat.le_of_ble_eq_true rfl) (fun o' _ => t_X12_fails Γ.2.1 E o' S) d_X12_shiftLine_9 rfl (fun v13 S14 => ?_)
    exact g_zret hO rfl ⟨Nat.le_of_ble_eq_true rfl, Nat.le_of_ble_eq_true rfl⟩ rfl rfl d_X12_shiftLine_12.1
theorem t_X12_shiftLine (l : Launch) (E : GE) (o : Nat) (x1 : Int64) (x3 : Int32) (S : GS) : ∀ a, f_X12_shiftLine o x1 x3 S = some a → Ct l E yX12_shiftLine cX12_shiftLine 4 (some .boolean) rm_X12_shiftLine [vA (some o), vJ x1, vI x3] S (some (vI a.1)) a.2 :=
  Ct_of (val := fun (b : Int32 × GS) => some (vI b.1)) (nxt := fun (b : Int32 × GS) => b.2) (by decide) (Nat.le_of_ble_eq_true rfl) (fun Γ hl hO => w_X12_shiftLine hO o x1 x3 S)
theorem d_X12_lineOf_0 : gD cX12_lineOf 0 (.iload_n 1) 1 1 := ⟨by decide +kernel, rfl⟩
theorem d_X12_lineOf_1 : decode cX12_lineOf 1 = .ok (.tableswitch 73 0 4 #[35, 43, 51, 57, 65], 35) ∧ ((1 : Nat) : Int) + 73 = ((74 : Nat) : Int) := ⟨by decide +kernel, by decide⟩
theorem d_X12_lineOf_36 : gD cX12_lineOf 36 (.aload_n 0) 1 37 := ⟨by decide +kernel, rfl⟩
theorem d_X12_lineOf_37 : gD cX12_lineOf 37 (.lload_n 2) 1 38 := ⟨by decide +kernel, rfl⟩
theorem d_X12_lineOf_38 : gD cX12_lineOf 38 (.iload 4) 2 40 := ⟨by decide +kernel, rfl⟩
theorem d_X12_lineOf_40 : gD cX12_lineOf 40 (.invokevirtual 244) 3 43 := ⟨by decide +kernel, rfl⟩
theorem d_X12_lineOf_43 : gD cX12_lineOf 43 (.ireturn) 1 44 := ⟨by decide +kernel, rfl⟩
theorem d_X12_lineOf_44 : gD cX12_lineOf 44 (.aload_n 0) 1 45 := ⟨by decide +kernel, rfl⟩
theorem d_X12_lineOf_45 : gD cX12_lineOf 45 (.lload_n 2) 1 46 := ⟨by decide +kernel, rfl⟩
theorem d_X12_lineOf_46 : gD cX12_lineOf 46 (.iload 4) 2 48 := ⟨by decide +kernel, rfl⟩
theorem d_X12_lineOf_48 : gD cX12_lineOf 48 (.invokevirtual 248) 3 51 := ⟨by decide +kernel, rfl⟩
theorem d_X12_lineOf_51 : gD cX12_lineOf 51 (.ireturn) 1 52 := ⟨by decide +kernel, rfl⟩
theorem d_X12_lineOf_52 : gD cX12_lineOf 52 (.aload_n 0) 1 53 := ⟨by decide +kernel, rfl⟩
theorem d_X12_lineOf_53 : gD cX12_lineOf 53 (.lload_n 2) 1 54 := ⟨by decide +kernel, rfl⟩
theorem d_X12_lineOf_54 : gD cX12_lineOf 54 (.invokevirtual 251) 3 57 := ⟨by decide +kernel, rfl⟩
theorem d_X12_lineOf_57 : gD cX12_lineOf 57 (.ireturn) 1 58 := ⟨by decide +kernel, rfl⟩
theorem d_X12_lineOf_58 : gD cX12_lineOf 58 (.aload_n 0) 1 59 := ⟨by decide +kernel, rfl⟩
theorem d_X12_lineOf_59 : gD cX12_lineOf 59 (.lload_n 2) 1 60 := ⟨by decide +kernel, rfl⟩
theorem d_X12_lineOf_60 : gD cX12_lineOf 60 (.iload 4) 2 62 := ⟨by decide +kernel, rfl⟩
theorem d_X12_lineOf_62 : gD cX12_lineOf 62 (.invokevirtual 255) 3 65 := ⟨by decide +kernel, rfl⟩
theorem d_X12_lineOf_65 : gD cX12_lineOf 65 (.ireturn) 1 66 := ⟨by decide +kernel, rfl⟩
theorem d_X12_lineOf_66 : gD cX12_lineOf 66 (.aload_n 0) 1 67 := ⟨by decide +kernel, rfl⟩
theorem d_X12_lineOf_67 : gD cX12_lineOf 67 (.lload_n 2) 1 68 := ⟨by decide +kernel, rfl⟩
theorem d_X12_lineOf_68 : gD cX12_lineOf 68 (.iload 4) 2 70 := ⟨by decide +kernel, rfl⟩
theorem d_X12_lineOf_70 : gD cX12_lineOf 70 (.invokevirtual 258) 3 73 := ⟨by decide +kernel, rfl⟩
theorem d_X12_lineOf_73 : gD cX12_lineOf 73 (.ireturn) 1 74 := ⟨by decide +kernel, rfl⟩
theorem d_X12_lineOf_74 : gD cX12_lineOf 74 (.aload_n 0) 1 75 := ⟨by decide +kernel, rfl⟩
theorem d_X12_lineOf_75 : gD cX12_lineOf 75 (.lload_n 2) 1 76 := ⟨by decide +kernel, rfl⟩
theorem d_X12_lineOf_76 : gD cX12_lineOf 76 (.iload 4) 2 78 := ⟨by decide +kernel, rfl⟩
theorem d_X12_lineOf_78 : gD cX12_lineOf 78 (.invokevirtual 261) 3 81 := ⟨by decide +kernel, rfl⟩
theorem d_X12_lineOf_81 : gD cX12_lineOf 81 (.ireturn) 1 82 := ⟨by decide +kernel, rfl⟩
abbrev rm_X12_lineOf : Room := { frames := 6, cells := 0, slots := 0, locals := 137 }
set_option maxRecDepth 20000 in
theorem w_X12_lineOf {Γ : GC} {E : GE} (hO : gOk Γ E cX12_lineOf RX12 5 rm_X12_lineOf (some .boolean) "lineOf") (o : Nat) (x1 : Int32) (x2 : Int64) (x4 : Int32) (S : GS) : Go Γ E (gBsI Γ E) 5 (0, 0) 0 S [(0, vA (some o)), (1, vI x1), (2, vJ x2), (4, vI x4)] [] (f_X12_lineOf o x1 x2 x4 S) := by
  unfold f_X12_lineOf
  refine g_iload_n hO d_X12_lineOf_0 (by rfl) 1 rfl ?_
  refine h_tsw (c := 0) (dt := 74) hO d_X12_lineOf_1.1 5 (by decide) (by rfl) rfl (by decide) (by decide) d_X12_lineOf_1.2 ⟨⟨36, by decide, ?_⟩, ⟨44, by decide, ?_⟩, ⟨52, by decide, ?_⟩, ⟨58, by decide, ?_⟩, ⟨66, by decide, ?_⟩, trivial⟩ ?_
  · skip
    refine g_aload_n hO d_X12_lineOf_36 (by rfl) 0 rfl ?_
    refine g_lload_n hO d_X12_lineOf_37 (by rfl) 2 rfl ?_
    refine g_iload hO d_X12_lineOf_38 3 rfl ?_
    refine k_virtIs hO cl_X12 mm_X12_courtLine lkV_X12_244 ⟨⟨Nat.le_of_ble_eq_true rfl, Nat.le_of_ble_eq_true rfl⟩, Nat.le_of_ble_eq_true rfl, Nat.le_of_ble_eq_true rfl⟩ (kn' := (0, 0)) rfl (As := [vJ x2, vI x4]) rfl (Nat.le_of_ble_eq_true rfl) (fun o' _ => t_X12_courtLine Γ.2.1 E o' x2 x4 S) d_X12_lineOf_40 rfl (fun v1 S2 => ?_)
    exact g_zret hO rfl ⟨Nat.le_of_ble_eq_true rfl, Nat.le_of_ble_eq_true rfl⟩ rfl rfl d_X12_lineOf_43.1
  · skip
    refine g_aload_n hO d_X12_lineOf_44 (by rfl) 0 rfl ?_
    refine g_lload_n hO d_X12_lineOf_45 (by rfl) 2 rfl ?_
    refine g_iload hO d_X12_lineOf_46 3 rfl ?_
    refine k_virtIs hO cl_X12 mm_X12_ballLine lkV_X12_248 ⟨⟨Nat.le_of_ble_eq_true rfl, Nat.le_of_ble_eq_true rfl⟩, Nat.le_of_ble_eq_true rfl, Nat.le_of_ble_eq_true rfl⟩ (kn' := (0, 0)) rfl (As := [vJ x2, vI x4]) rfl (Nat.le_of_ble_eq_true rfl) (fun o' _ => t_X12_ballLine Γ.2.1 E o' x2 x4 S) d_X12_lineOf_48 rfl (fun v3 S4 => ?_)
    exact g_zret hO rfl ⟨Nat.le_of_ble_eq_true rfl, Nat.le_of_ble_eq_true rfl⟩ rfl rfl d_X12_lineOf_51.1
  · skip
    refine g_aload_n hO d_X12_lineOf_52 (by rfl) 0 rfl ?_
    refine g_lload_n hO d_X12_lineOf_53 (by rfl) 2 rfl ?_
    refine k_virtIs hO cl_X12 mm_X12_forecastLine lkV_X12_251 ⟨⟨Nat.le_of_ble_eq_true rfl, Nat.le_of_ble_eq_true rfl⟩, Nat.le_of_ble_eq_true rfl, Nat.le_of_ble_eq_true rfl⟩ (kn' := (0, 0)) rfl (As := [vJ x2]) rfl (Nat.le_of_ble_eq_true rfl) (fun o' _ => t_X12_forecastLine Γ.2.1 E o' x2 S) d_X12_lineOf_54 rfl (fun v5 S6 => ?_)
    exact g_zret hO rfl ⟨Nat.le_of_ble_eq_true rfl, Nat.le_of_ble_eq_true rfl⟩ rfl rfl d_X12_lineOf_57.1
  · skip
    refine g_aload_n hO d_X12_lineOf_58 (by rfl) 0 rfl ?_
    refine g_lload_n hO d_X12_lineOf_59 (by rfl) 2 rfl ?_
    refine g_iload hO d_X12_lineOf_60 3 rfl ?_
    refine k_virtIs hO cl_X12 mm_X12_sightLine lkV_X12_255 ⟨⟨Nat.le_of_ble_eq_true rfl, Nat.le_of_ble_eq_true rfl⟩, Nat.le_of_ble_eq_true rfl, Nat.le_of_ble_eq_true rfl⟩ (kn' := (0, 0)) rfl (As := [vJ x2, vI x4]) rfl (Nat.le_of_ble_eq_true rfl) (fun o' _ => t_X12_sightLine Γ.2.1 E o' x2 x4 S) d_X12_lineOf_62 rfl (fun v7 S8 => ?_)
    exact g_zret hO rfl ⟨Nat.le_of_ble_eq_true rfl, Nat.le_of_ble_eq_true rfl⟩ rfl rfl d_X12_lineOf_65.1
  · skip
    refine g_aload_n hO d_X12_lineOf_66 (by rfl) 0 rfl ?_
    refine g_lload_n hO d_X12_lineOf_67 (by rfl) 2 rfl ?_
    refine g_iload hO d_X12_lineOf_68 3 rfl ?_
    refine k_virtIs hO cl_X12 mm_X12_ledgerLine lkV_X12_258 ⟨⟨Nat.le_of_ble_eq_true rfl, Nat.le_of_ble_eq_true rfl⟩, Nat.le_of_ble_eq_true rfl, Nat.le_of_ble_eq_true rfl⟩ (kn' := (0, 0)) rfl (As := [vJ x2, vI x4]) rfl (Nat.le_of_ble_eq_true rfl) (fun o' _ => t_X12_ledgerLine Γ.2.1 E o' x2 x4 S) d_X12_lineOf_70 rfl (fun v9 S10 => ?_)
    exact g_zret hO rfl ⟨Nat.le_of_ble_eq_true rfl, Nat.le_of_ble_eq_true rfl⟩ rfl rfl d_X12_lineOf_73.1
  · skip
    refine g_aload_n hO d_X12_lineOf_74 (by rfl) 0 rfl ?_
    refine g_lload_n hO d_X12_lineOf_75 (by rfl) 2 rfl ?_
    refine g_iload hO d_X12_lineOf_76 3 rfl ?_
    refine k_virtIs hO cl_X12 mm_X12_shiftLine lkV_X12_261 ⟨⟨Nat.le_of_ble_eq_true rfl, Nat.le_of_ble_eq_true rfl⟩, Nat.le_of_ble_eq_true rfl, Nat.le_of_ble_eq_true rfl⟩ (kn' := (0, 0)) rfl (As := [vJ x2, vI x4]) rfl (Nat.le_of_ble_eq_true rfl) (fun o' _ => t_X12_shiftLine Γ.2.1 E o' x2 x4 S) d_X12_lineOf_78 rfl (fun v11 S12 => ?_)
    exact g_zret hO rfl ⟨Nat.le_of_ble_eq_true rfl, Nat.le_of_ble_eq_true rfl⟩ rfl rfl d_X12_lineOf_81.1
theorem t_X12_lineOf (l : Launch) (E : GE) (o : Nat) (x1 : Int32) (x2 : Int64) (x4 : Int32) (S : GS) : ∀ a, f_X12_lineOf o x1 x2 x4 S = some a → Ct l E yX12_lineOf cX12_lineOf 5 (some .boolean) rm_X12_lineOf [vA (some o), vI x1, vJ x2, vI x4] S (some (vI a.1)) a.2 :=
  Ct_of (val := fun (b : Int32 × GS) => some (vI b.1)) (nxt := fun (b : Int32 × GS) => b.2) (by decide) (Nat.le_of_ble_eq_true rfl) (fun Γ hl hO => w_X12_lineOf hO o x1 x2 x4 S)
theorem d_X12_lines_0 : gD cX12_lines 0 (.iconst 1) 1 1 := ⟨by decide +kernel, rfl⟩
theorem d_X12_lines_1 : gD cX12_lines 1 (.istore_n 2) 1 2 := ⟨by decide +kernel, rfl⟩
theorem d_X12_lines_2 : gD cX12_lines 2 (.iload_n 2) 1 3 := ⟨by decide +kernel, rfl⟩
theorem d_X12_lines_3 : gD cX12_lines 3 (.ifCond .eq 66) 3 6 ∧ ((3 : Nat) : Int) + 66 = ((69 : Nat) : Int) := ⟨⟨by decide +kernel, rfl⟩, by decide⟩
theorem d_X12_lines_6 : gD cX12_lines 6 (.aload_n 0) 1 7 := ⟨by decide +kernel, rfl⟩
theorem d_X12_lines_7 : gD cX12_lines 7 (.getfield 137) 3 10 := ⟨by decide +kernel, rfl⟩
theorem d_X12_lines_10 : gD cX12_lines 10 (.ifCond .eq 59) 3 13 ∧ ((10 : Nat) : Int) + 59 = ((69 : Nat) : Int) := ⟨⟨by decide +kernel, rfl⟩, by decide⟩
theorem d_X12_lines_13 : gD cX12_lines 13 (.aload_n 0) 1 14 := ⟨by decide +kernel, rfl⟩
theorem d_X12_lines_14 : gD cX12_lines 14 (.getfield 130) 3 17 := ⟨by decide +kernel, rfl⟩
theorem d_X12_lines_17 : gD cX12_lines 17 (.istore_n 3) 1 18 := ⟨by decide +kernel, rfl⟩
theorem d_X12_lines_18 : gD cX12_lines 18 (.aload_n 0) 1 19 := ⟨by decide +kernel, rfl⟩
theorem d_X12_lines_19 : gD cX12_lines 19 (.iload_n 1) 1 20 := ⟨by decide +kernel, rfl⟩
theorem d_X12_lines_20 : gD cX12_lines 20 (.aload_n 0) 1 21 := ⟨by decide +kernel, rfl⟩
theorem d_X12_lines_21 : gD cX12_lines 21 (.getfield 137) 3 24 := ⟨by decide +kernel, rfl⟩
theorem d_X12_lines_24 : gD cX12_lines 24 (.iconst 2) 1 25 := ⟨by decide +kernel, rfl⟩
theorem d_X12_lines_25 : gD cX12_lines 25 (.if_icmp .ne 10) 3 28 ∧ ((25 : Nat) : Int) + 10 = ((35 : Nat) : Int) := ⟨⟨by decide +kernel, rfl⟩, by decide⟩
theorem d_X12_lines_28 : gD cX12_lines 28 (.aload_n 0) 1 29 := ⟨by decide +kernel, rfl⟩
theorem d_X12_lines_29 : gD cX12_lines 29 (.getfield 133) 3 32 := ⟨by decide +kernel, rfl⟩
theorem d_X12_lines_32 : decode cX12_lines 32 = .ok (.goto 4, 3) ∧ ((32 : Nat) : Int) + 4 = ((36 : Nat) : Int) := ⟨by decide +kernel, by decide⟩
theorem d_X12_lines_35 : gD cX12_lines 35 (.lconst 0) 1 36 := ⟨by decide +kernel, rfl⟩
theorem d_X12_lines_36 : gD cX12_lines 36 (.iload_n 3) 1 37 := ⟨by decide +kernel, rfl⟩
theorem d_X12_lines_37 : gD cX12_lines 37 (.invokevirtual 264) 3 40 := ⟨by decide +kernel, rfl⟩
theorem d_X12_lines_40 : gD cX12_lines 40 (.istore_n 2) 1 41 := ⟨by decide +kernel, rfl⟩
theorem d_X12_lines_41 : gD cX12_lines 41 (.iload_n 2) 1 42 := ⟨by decide +kernel, rfl⟩
theorem d_X12_lines_42 : gD cX12_lines 42 (.ifCond .eq 16) 3 45 ∧ ((42 : Nat) : Int) + 16 = ((58 : Nat) : Int) := ⟨⟨by decide +kernel, rfl⟩, by decide⟩
theorem d_X12_lines_45 : gD cX12_lines 45 (.aload_n 0) 1 46 := ⟨by decide +kernel, rfl⟩
theorem d_X12_lines_46 : gD cX12_lines 46 (.getfield 137) 3 49 := ⟨by decide +kernel, rfl⟩
theorem d_X12_lines_49 : gD cX12_lines 49 (.iconst 4) 1 50 := ⟨by decide +kernel, rfl⟩
theorem d_X12_lines_50 : gD cX12_lines 50 (.if_icmp .eq 8) 3 53 ∧ ((50 : Nat) : Int) + 8 = ((58 : Nat) : Int) := ⟨⟨by decide +kernel, rfl⟩, by decide⟩
theorem d_X12_lines_53 : gD cX12_lines 53 (.aload_n 0) 1 54 := ⟨by decide +kernel, rfl⟩
theorem d_X12_lines_54 : gD cX12_lines 54 (.invokevirtual 152) 3 57 := ⟨by decide +kernel, rfl⟩
theorem d_X12_lines_57 : gD cX12_lines 57 (.istore_n 2) 1 58 := ⟨by decide +kernel, rfl⟩
theorem d_X12_lines_58 : gD cX12_lines 58 (.iload_n 2) 1 59 := ⟨by decide +kernel, rfl⟩
theorem d_X12_lines_59 : gD cX12_lines 59 (.ifCond .eq 7) 3 62 ∧ ((59 : Nat) : Int) + 7 = ((66 : Nat) : Int) := ⟨⟨by decide +kernel, rfl⟩, by decide⟩
theorem d_X12_lines_62 : gD cX12_lines 62 (.aload_n 0) 1 63 := ⟨by decide +kernel, rfl⟩
theorem d_X12_lines_63 : gD cX12_lines 63 (.invokevirtual 160) 3 66 := ⟨by decide +kernel, rfl⟩
theorem d_X12_lines_66 : decode cX12_lines 66 = .ok (.goto (-64), 3) ∧ ((66 : Nat) : Int) + (-64) = ((2 : Nat) : Int) := ⟨by decide +kernel, by decide⟩
theorem d_X12_lines_69 : gD cX12_lines 69 (.iload_n 2) 1 70 := ⟨by decide +kernel, rfl⟩
theorem d_X12_lines_70 : gD cX12_lines 70 (.ireturn) 1 71 := ⟨by decide +kernel, rfl⟩
abbrev rm_X12_lines : Room := { frames := 7, cells := 0, slots := 0, locals := 161 }
set_option maxRecDepth 20000 in
theorem w_X12_lines_66 {Γ : GC} {E : GE} (hO : gOk Γ E cX12_lines RX12 4 rm_X12_lines (some .boolean) "lines") (o : Nat) {k2 : (Int32 → Int32 → GS → Option (Int32 × GS))} (hk2 : ∀ (z1 : Int32) (z2 : Int32) (S1 : GS), Go Γ E (gBsI Γ E) 4 (0, 0) 2 S1 [(0, vA (some o)), (1, vI z1), (2, vI z2)] [] (k2 z1 z2 S1)) (x1 : Int32) (x2 : Int32) (S : GS) : Go Γ E (gBsI Γ E) 4 (0, 0) 66 S [(0, vA (some o)), (1, vI x1), (2, vI x2)] [] (f_X12_lines_66 k2 o x1 x2 S) := by
  unfold f_X12_lines_66
  refine g_goto (tgt := 2) hO d_X12_lines_66.1 d_X12_lines_66.2 ?_
  exact g_sub [0, 1, 2] rfl (hk2 _ _ _)
set_option maxRecDepth 20000 in
theorem w_X12_lines_58 {Γ : GC} {E : GE} (hO : gOk Γ E cX12_lines RX12 4 rm_X12_lines (some .boolean) "lines") (o : Nat) {k2 : (Int32 → Int32 → GS → Option (Int32 × GS))} (hk2 : ∀ (z1 : Int32) (z2 : Int32) (S1 : GS), Go Γ E (gBsI Γ E) 4 (0, 0) 2 S1 [(0, vA (some o)), (1, vI z1), (2, vI z2)] [] (k2 z1 z2 S1)) (x1 : Int32) (x2 : Int32) (S : GS) : Go Γ E (gBsI Γ E) 4 (0, 0) 58 S [(0, vA (some o)), (1, vI x1), (2, vI x2)] [] (f_X12_lines_58 k2 o x1 x2 S) := by
  unfold f_X12_lines_58
  refine g_iload_n hO d_X12_lines_58 (by rfl) 2 rfl ?_
  refine g_if_eq (tgt := 66) hO d_X12_lines_59.1 d_X12_lines_59.2 (fun _ => ?_) (fun _ => ?_)
  · skip
    exact g_sub [0, 1, 2] rfl (w_X12_lines_66 hO o hk2 _ _ _)
  · skip
    refine g_aload_n hO d_X12_lines_62 (by rfl) 0 rfl ?_
    refine k_virtVs hO cl_X12 mm_X12_token lkV_X12_160 ⟨⟨Nat.le_of_ble_eq_true rfl, Nat.le_of_ble_eq_true rfl⟩, Nat.le_of_ble_eq_true rfl, Nat.le_of_ble_eq_true rfl⟩ (kn' := (0, 0)) rfl (As := []) rfl (Nat.le_of_ble_eq_true rfl) (fun o' _ => t_X12_token Γ.2.1 E o' S) d_X12_lines_63 rfl (fun S2 => ?_)
    exact g_sub [0, 1, 2] rfl (w_X12_lines_66 hO o hk2 _ _ _)
set_option maxRecDepth 20000 in
theorem w_X12_lines_36 {Γ : GC} {E : GE} (hO : gOk Γ E cX12_lines RX12 4 rm_X12_lines (some .boolean) "lines") (o : Nat) {k2 : (Int32 → Int32 → GS → Option (Int32 × GS))} (hk2 : ∀ (z1 : Int32) (z2 : Int32) (S1 : GS), Go Γ E (gBsI Γ E) 4 (0, 0) 2 S1 [(0, vA (some o)), (1, vI z1), (2, vI z2)] [] (k2 z1 z2 S1)) (x1 : Int32) (x3 : Int32) (y0 : Option Nat) (y1 : Int32) (y2 : Int64) (S : GS) : Go Γ E (gBsI Γ E) 4 (0, 0) 36 S [(0, vA (some o)), (1, vI x1), (3, vI x3)] [vJ y2, vI y1, vA y0] (f_X12_lines_36 k2 o x1 x3 y0 y1 y2 S) := by
  unfold f_X12_lines_36
  refine g_iload_n hO d_X12_lines_36 (by rfl) 2 rfl ?_
  refine k_virtIs hO cl_X12 mm_X12_lineOf lkV_X12_264 ⟨⟨Nat.le_of_ble_eq_true rfl, Nat.le_of_ble_eq_true rfl⟩, Nat.le_of_ble_eq_true rfl, Nat.le_of_ble_eq_true rfl⟩ (kn' := (0, 0)) rfl (As := [vI y1, vJ y2, vI x3]) rfl (Nat.le_of_ble_eq_true rfl) (fun o' _ => t_X12_lineOf Γ.2.1 E o' y1 y2 x3 S) d_X12_lines_37 rfl (fun v1 S2 => ?_)
  refine g_istore_n (lv' := [(2, vI v1), (0, vA (some o)), (1, vI x1), (3, vI x3)]) hO d_X12_lines_40 (by rfl) (by decide) rfl ?_
  refine g_iload_n hO d_X12_lines_41 (by rfl) 0 rfl ?_
  refine g_if_eq (tgt := 58) hO d_X12_lines_42.1 d_X12_lines_42.2 (fun _ => ?_) (fun _ => ?_)
  · skip
    exact g_sub [1, 2, 0] rfl (w_X12_lines_58 hO o hk2 _ _ _)
  · skip
    refine g_aload_n hO d_X12_lines_45 (by rfl) 1 rfl ?_
    refine h_getI hO cl_X12 15 rfl wf_X12_137 d_X12_lines_46 (fun v3 => ?_)
    refine g_iconst hO 4 d_X12_lines_49 (by decide) ?_
    refine g_ic_eq (tgt := 58) hO d_X12_lines_50.1 d_X12_lines_50.2 (fun _ => ?_) (fun _ => ?_)
    · skip
      exact g_sub [1, 2, 0] rfl (w_X12_lines_58 hO o hk2 _ _ _)
    · skip
      refine g_aload_n hO d_X12_lines_53 (by rfl) 1 rfl ?_
      refine k_virtIs hO cl_X12 mm_X12_fails lkV_X12_152 ⟨⟨Nat.le_of_ble_eq_true rfl, Nat.le_of_ble_eq_true rfl⟩, Nat.le_of_ble_eq_true rfl, Nat.le_of_ble_eq_true rfl⟩ (kn' := (0, 0)) rfl (As := []) rfl (Nat.le_of_ble_eq_true rfl) (fun o' _ => t_X12_fails Γ.2.1 E o' S2) d_X12_lines_54 rfl (fun v4 S5 => ?_)
      refine g_istore_n (lv' := [(2, vI v4), (0, vA (some o)), (1, vI x1), (3, vI x3)]) hO d_X12_lines_57 (by rfl) (by decide) rfl ?_
      exact g_sub [1, 2, 0] rfl (w_X12_lines_58 hO o hk2 _ _ _)
set_option maxRecDepth 20000 in
theorem w_X12_lines_2 {Γ : GC} {E : GE} (hO : gOk Γ E cX12_lines RX12 4 rm_X12_lines (some .boolean) "lines") (o : Nat) : ∀ (n : Nat) (x1 : Int32) (x2 : Int32) (S : GS), Go Γ E (gBsI Γ E) 4 (0, 0) 2 S [(0, vA (some o)), (1, vI x1), (2, vI x2)] [] (f_X12_lines_2 o n x1 x2 S) := by
  intro n
  induction n with
  | zero =>
    intro x1 x2 S
    exact g_none
  | succ n ih =>
    intro x1 x2 S
    rw [f_X12_lines_2]
    refine g_iload_n hO d_X12_lines_2 (by rfl) 2 rfl ?_
    refine g_if_eq (tgt := 69) hO d_X12_lines_3.1 d_X12_lines_3.2 (fun _ => ?_) (fun _ => ?_)
    · skip
      refine g_iload_n hO d_X12_lines_69 (by rfl) 2 rfl ?_
      exact g_zret hO rfl ⟨Nat.le_of_ble_eq_true rfl, Nat.le_of_ble_eq_true rfl⟩ rfl rfl d_X12_lines_70.1
    · skip
      refine g_aload_n hO d_X12_lines_6 (by rfl) 0 rfl ?_
      refine h_getI hO cl_X12 15 rfl wf_X12_137 d_X12_lines_7 (fun v1 => ?_)
      refine g_if_eq (tgt := 69) hO d_X12_lines_10.1 d_X12_lines_10.2 (fun _ => ?_) (fun _ => ?_)
      · skip
        refine g_iload_n hO d_X12_lines_69 (by rfl) 2 rfl ?_
        exact g_zret hO rfl ⟨Nat.le_of_ble_eq_true rfl, Nat.le_of_ble_eq_true rfl⟩ rfl rfl d_X12_lines_70.1
      · skip
        refine g_aload_n hO d_X12_lines_13 (by rfl) 0 rfl ?_
        refine h_getI hO cl_X12 14 rfl wf_X12_130 d_X12_lines_14 (fun v2 => ?_)
        refine g_istore_n (lv' := [(3, vI v2), (0, vA (some o)), (1, vI x1), (2, vI x2)]) hO d_X12_lines_17 (by rfl) (by decide) rfl ?_
        refine g_aload_n hO d_X12_lines_18 (by rfl) 1 rfl ?_
        refine g_iload_n hO d_X12_lines_19 (by rfl) 2 rfl ?_
        refine g_aload_n hO d_X12_lines_20 (by rfl) 1 rfl ?_
        refine h_getI hO cl_X12 15 rfl wf_X12_137 d_X12_lines_21 (fun v3 => ?_)
        refine g_iconst hO 2 d_X12_lines_24 (by decide) ?_
        refine g_ic_ne (tgt := 35) hO d_X12_lines_25.1 d_X12_lines_25.2 (fun _ => ?_) (fun _ => ?_)
        · skip
          refine g_aload_n hO d_X12_lines_28 (by rfl) 1 rfl ?_
          refine h_getJ hO cl_X12 17 rfl wf_X12_133 d_X12_lines_29 (fun v4 => ?_)
          refine g_goto (tgt := 36) hO d_X12_lines_32.1 d_X12_lines_32.2 ?_
          exact g_sub [1, 2, 0] rfl (w_X12_lines_36 hO o ih _ _ _ _ _ _)
        · skip
          refine g_lconst hO 0 d_X12_lines_35 (by decide) ?_
          exact g_sub [1, 2, 0] rfl (w_X12_lines_36 hO o ih _ _ _ _ _ _)
set_option maxRecDepth 20000 in
theorem w_X12_lines {Γ : GC} {E : GE} (hO : gOk Γ E cX12_lines RX12 4 rm_X12_lines (some .boolean) "lines") (o : Nat) (x1 : Int32) (S : GS) : Go Γ E (gBsI Γ E) 4 (0, 0) 0 S [(0, vA (some o)), (1, vI x1)] [] (f_X12_lines o x1 S) := by
  unfold f_X12_lines
  refine g_iconst hO 1 d_X12_lines_0 (by decide) ?_
  refine g_istore_n (lv' := [(2, vI 1), (0, vA (some o)), (1, vI x1)]) hO d_X12_lines_1 (by rfl) (by decide) rfl ?_
  exact g_sub [1, 2, 0] rfl (w_X12_lines_2 hO o _ _ _ _)
theorem t_X12_lines (l : Launch) (E : GE) (o : Nat) (x1 : Int32) (S : GS) : ∀ a, f_X12_lines o x1 S = some a → Ct l E yX12_lines cX12_lines 4 (some .boolean) rm_X12_lines [vA (some o), vI x1] S (some (vI a.1)) a.2 :=
  Ct_of (val := fun (b : Int32 × GS) => some (vI b.1)) (nxt := fun (b : Int32 × GS) => b.2) (by decide) (Nat.le_of_ble_eq_true rfl) (fun Γ hl hO => w_X12_lines hO o x1 S)
theorem d_X12_readText_0 : gD cX12_readText 0 (.iconst 0) 1 1 := ⟨by decide +kernel, rfl⟩
theorem d_X12_readText_1 : gD cX12_readText 1 (.istore_n 2) 1 2 := ⟨by decide +kernel, rfl⟩
theorem d_X12_readText_2 : gD cX12_readText 2 (.iload_n 2) 1 3 := ⟨by decide +kernel, rfl⟩
theorem d_X12_readText_3 : gD cX12_readText 3 (.bipush 122) 2 5 := ⟨by decide +kernel, rfl⟩
theorem d_X12_readText_5 : gD cX12_readText 5 (.if_icmp .ge 16) 3 8 ∧ ((5 : Nat) : Int) + 16 = ((21 : Nat) : Int) := ⟨⟨by decide +kernel, rfl⟩, by decide⟩
theorem d_X12_readText_8 : gD cX12_readText 8 (.aload_n 0) 1 9 := ⟨by decide +kernel, rfl⟩
theorem d_X12_readText_9 : gD cX12_readText 9 (.getfield 44) 3 12 := ⟨by decide +kernel, rfl⟩
theorem d_X12_readText_12 : gD cX12_readText 12 (.iload_n 2) 1 13 := ⟨by decide +kernel, rfl⟩
theorem d_X12_readText_13 : gD cX12_readText 13 (.iconst 0) 1 14 := ⟨by decide +kernel, rfl⟩
theorem d_X12_readText_14 : gD cX12_readText 14 (.iastore) 1 15 := ⟨by decide +kernel, rfl⟩
theorem d_X12_readText_15 : gD cX12_readText 15 (.iinc 2 1) 3 18 := ⟨by decide +kernel, rfl⟩
theorem d_X12_readText_18 : decode cX12_readText 18 = .ok (.goto (-16), 3) ∧ ((18 : Nat) : Int) + (-16) = ((2 : Nat) : Int) := ⟨by decide +kernel, by decide⟩
theorem d_X12_readText_21 : gD cX12_readText 21 (.iload_n 1) 1 22 := ⟨by decide +kernel, rfl⟩
theorem d_X12_readText_22 : gD cX12_readText 22 (.ifCond .ne 49) 3 25 ∧ ((22 : Nat) : Int) + 49 = ((71 : Nat) : Int) := ⟨⟨by decide +kernel, rfl⟩, by decide⟩
theorem d_X12_readText_25 : gD cX12_readText 25 (.aload_n 0) 1 26 := ⟨by decide +kernel, rfl⟩
theorem d_X12_readText_26 : gD cX12_readText 26 (.getfield 44) 3 29 := ⟨by decide +kernel, rfl⟩
theorem d_X12_readText_29 : gD cX12_readText 29 (.iconst 3) 1 30 := ⟨by decide +kernel, rfl⟩
theorem d_X12_readText_30 : gD cX12_readText 30 (.iconst 2) 1 31 := ⟨by decide +kernel, rfl⟩
theorem d_X12_readText_31 : gD cX12_readText 31 (.iastore) 1 32 := ⟨by decide +kernel, rfl⟩
theorem d_X12_readText_32 : gD cX12_readText 32 (.aload_n 0) 1 33 := ⟨by decide +kernel, rfl⟩
theorem d_X12_readText_33 : gD cX12_readText 33 (.getfield 44) 3 36 := ⟨by decide +kernel, rfl⟩
theorem d_X12_readText_36 : gD cX12_readText 36 (.iconst 4) 1 37 := ⟨by decide +kernel, rfl⟩
theorem d_X12_readText_37 : gD cX12_readText 37 (.iconst 3) 1 38 := ⟨by decide +kernel, rfl⟩
theorem d_X12_readText_38 : gD cX12_readText 38 (.iastore) 1 39 := ⟨by decide +kernel, rfl⟩
theorem d_X12_readText_39 : gD cX12_readText 39 (.aload_n 0) 1 40 := ⟨by decide +kernel, rfl⟩
theorem d_X12_readText_40 : gD cX12_readText 40 (.getfield 44) 3 43 := ⟨by decide +kernel, rfl⟩
theorem d_X12_readText_43 : gD cX12_readText 43 (.iconst 5) 1 44 := ⟨by decide +kernel, rfl⟩
theorem d_X12_readText_44 : gD cX12_readText 44 (.bipush 30) 2 46 := ⟨by decide +kernel, rfl⟩
theorem d_X12_readText_46 : gD cX12_readText 46 (.iastore) 1 47 := ⟨by decide +kernel, rfl⟩
theorem d_X12_readText_47 : gD cX12_readText 47 (.aload_n 0) 1 48 := ⟨by decide +kernel, rfl⟩
theorem d_X12_readText_48 : gD cX12_readText 48 (.getfield 44) 3 51 := ⟨by decide +kernel, rfl⟩
theorem d_X12_readText_51 : gD cX12_readText 51 (.bipush 6) 2 53 := ⟨by decide +kernel, rfl⟩
theorem d_X12_readText_53 : gD cX12_readText 53 (.iconst 1) 1 54 := ⟨by decide +kernel, rfl⟩
theorem d_X12_readText_54 : gD cX12_readText 54 (.iastore) 1 55 := ⟨by decide +kernel, rfl⟩
theorem d_X12_readText_55 : gD cX12_readText 55 (.aload_n 0) 1 56 := ⟨by decide +kernel, rfl⟩
theorem d_X12_readText_56 : gD cX12_readText 56 (.getfield 44) 3 59 := ⟨by decide +kernel, rfl⟩
theorem d_X12_readText_59 : gD cX12_readText 59 (.bipush 7) 2 61 := ⟨by decide +kernel, rfl⟩
theorem d_X12_readText_61 : gD cX12_readText 61 (.iconst 1) 1 62 := ⟨by decide +kernel, rfl⟩
theorem d_X12_readText_62 : gD cX12_readText 62 (.iastore) 1 63 := ⟨by decide +kernel, rfl⟩
theorem d_X12_readText_63 : gD cX12_readText 63 (.aload_n 0) 1 64 := ⟨by decide +kernel, rfl⟩
theorem d_X12_readText_64 : gD cX12_readText 64 (.getfield 44) 3 67 := ⟨by decide +kernel, rfl⟩
theorem d_X12_readText_67 : gD cX12_readText 67 (.bipush 8) 2 69 := ⟨by decide +kernel, rfl⟩
theorem d_X12_readText_69 : gD cX12_readText 69 (.iconst 1) 1 70 := ⟨by decide +kernel, rfl⟩
theorem d_X12_readText_70 : gD cX12_readText 70 (.iastore) 1 71 := ⟨by decide +kernel, rfl⟩
theorem d_X12_readText_71 : gD cX12_readText 71 (.aload_n 0) 1 72 := ⟨by decide +kernel, rfl⟩
theorem d_X12_readText_72 : gD cX12_readText 72 (.iconst (-1)) 1 73 := ⟨by decide +kernel, rfl⟩
theorem d_X12_readText_73 : gD cX12_readText 73 (.putfield 170) 3 76 := ⟨by decide +kernel, rfl⟩
theorem d_X12_readText_76 : gD cX12_readText 76 (.aload_n 0) 1 77 := ⟨by decide +kernel, rfl⟩
theorem d_X12_readText_77 : gD cX12_readText 77 (.lconst 0) 1 78 := ⟨by decide +kernel, rfl⟩
theorem d_X12_readText_78 : gD cX12_readText 78 (.putfield 181) 3 81 := ⟨by decide +kernel, rfl⟩
theorem d_X12_readText_81 : gD cX12_readText 81 (.aload_n 0) 1 82 := ⟨by decide +kernel, rfl⟩
theorem d_X12_readText_82 : gD cX12_readText 82 (.iconst 0) 1 83 := ⟨by decide +kernel, rfl⟩
theorem d_X12_readText_83 : gD cX12_readText 83 (.putfield 120) 3 86 := ⟨by decide +kernel, rfl⟩
theorem d_X12_readText_86 : gD cX12_readText 86 (.aload_n 0) 1 87 := ⟨by decide +kernel, rfl⟩
theorem d_X12_readText_87 : gD cX12_readText 87 (.iconst 0) 1 88 := ⟨by decide +kernel, rfl⟩
theorem d_X12_readText_88 : gD cX12_readText 88 (.putfield 146) 3 91 := ⟨by decide +kernel, rfl⟩
theorem d_X12_readText_91 : gD cX12_readText 91 (.aload_n 0) 1 92 := ⟨by decide +kernel, rfl⟩
theorem d_X12_readText_92 : gD cX12_readText 92 (.invokevirtual 160) 3 95 := ⟨by decide +kernel, rfl⟩
theorem d_X12_readText_95 : gD cX12_readText 95 (.aload_n 0) 1 96 := ⟨by decide +kernel, rfl⟩
theorem d_X12_readText_96 : gD cX12_readText 96 (.iload_n 1) 1 97 := ⟨by decide +kernel, rfl⟩
theorem d_X12_readText_97 : gD cX12_readText 97 (.invokevirtual 268) 3 100 := ⟨by decide +kernel, rfl⟩
theorem d_X12_readText_100 : gD cX12_readText 100 (.istore_n 2) 1 101 := ⟨by decide +kernel, rfl⟩
theorem d_X12_readText_101 : gD cX12_readText 101 (.iload_n 2) 1 102 := ⟨by decide +kernel, rfl⟩
theorem d_X12_readText_102 : gD cX12_readText 102 (.ifCond .eq 62) 3 105 ∧ ((102 : Nat) : Int) + 62 = ((164 : Nat) : Int) := ⟨⟨by decide +kernel, rfl⟩, by decide⟩
theorem d_X12_readText_105 : gD cX12_readText 105 (.iload_n 1) 1 106 := ⟨by decide +kernel, rfl⟩
theorem d_X12_readText_106 : gD cX12_readText 106 (.ifCond .ne 58) 3 109 ∧ ((106 : Nat) : Int) + 58 = ((164 : Nat) : Int) := ⟨⟨by decide +kernel, rfl⟩, by decide⟩
theorem d_X12_readText_109 : gD cX12_readText 109 (.aload_n 0) 1 110 := ⟨by decide +kernel, rfl⟩
theorem d_X12_readText_110 : gD cX12_readText 110 (.getfield 146) 3 113 := ⟨by decide +kernel, rfl⟩
theorem d_X12_readText_113 : gD cX12_readText 113 (.ifCond .ne 51) 3 116 ∧ ((113 : Nat) : Int) + 51 = ((164 : Nat) : Int) := ⟨⟨by decide +kernel, rfl⟩, by decide⟩
theorem d_X12_readText_116 : gD cX12_readText 116 (.aload_n 0) 1 117 := ⟨by decide +kernel, rfl⟩
theorem d_X12_readText_117 : gD cX12_readText 117 (.getfield 170) 3 120 := ⟨by decide +kernel, rfl⟩
theorem d_X12_readText_120 : gD cX12_readText 120 (.aload_n 0) 1 121 := ⟨by decide +kernel, rfl⟩
theorem d_X12_readText_121 : gD cX12_readText 121 (.getfield 44) 3 124 := ⟨by decide +kernel, rfl⟩
theorem d_X12_readText_124 : gD cX12_readText 124 (.iconst 0) 1 125 := ⟨by decide +kernel, rfl⟩
theorem d_X12_readText_125 : gD cX12_readText 125 (.iaload) 1 126 := ⟨by decide +kernel, rfl⟩
theorem d_X12_readText_126 : gD cX12_readText 126 (.if_icmp .ge 29) 3 129 ∧ ((126 : Nat) : Int) + 29 = ((155 : Nat) : Int) := ⟨⟨by decide +kernel, rfl⟩, by decide⟩
theorem d_X12_readText_129 : gD cX12_readText 129 (.aload_n 0) 1 130 := ⟨by decide +kernel, rfl⟩
theorem d_X12_readText_130 : gD cX12_readText 130 (.getfield 44) 3 133 := ⟨by decide +kernel, rfl⟩
theorem d_X12_readText_133 : gD cX12_readText 133 (.bipush 6) 2 135 := ⟨by decide +kernel, rfl⟩
theorem d_X12_readText_135 : gD cX12_readText 135 (.iaload) 1 136 := ⟨by decide +kernel, rfl⟩
theorem d_X12_readText_136 : gD cX12_readText 136 (.aload_n 0) 1 137 := ⟨by decide +kernel, rfl⟩
theorem d_X12_readText_137 : gD cX12_readText 137 (.getfield 44) 3 140 := ⟨by decide +kernel, rfl⟩
theorem d_X12_readText_140 : gD cX12_readText 140 (.bipush 7) 2 142 := ⟨by decide +kernel, rfl⟩
theorem d_X12_readText_142 : gD cX12_readText 142 (.iaload) 1 143 := ⟨by decide +kernel, rfl⟩
theorem d_X12_readText_143 : gD cX12_readText 143 (.iadd) 1 144 := ⟨by decide +kernel, rfl⟩
theorem d_X12_readText_144 : gD cX12_readText 144 (.aload_n 0) 1 145 := ⟨by decide +kernel, rfl⟩
theorem d_X12_readText_145 : gD cX12_readText 145 (.getfield 44) 3 148 := ⟨by decide +kernel, rfl⟩
theorem d_X12_readText_148 : gD cX12_readText 148 (.bipush 8) 2 150 := ⟨by decide +kernel, rfl⟩
theorem d_X12_readText_150 : gD cX12_readText 150 (.iaload) 1 151 := ⟨by decide +kernel, rfl⟩
theorem d_X12_readText_151 : gD cX12_readText 151 (.iadd) 1 152 := ⟨by decide +kernel, rfl⟩
theorem d_X12_readText_152 : gD cX12_readText 152 (.ifCond .ne 12) 3 155 ∧ ((152 : Nat) : Int) + 12 = ((164 : Nat) : Int) := ⟨⟨by decide +kernel, rfl⟩, by decide⟩
theorem d_X12_readText_155 : gD cX12_readText 155 (.aload_n 0) 1 156 := ⟨by decide +kernel, rfl⟩
theorem d_X12_readText_156 : gD cX12_readText 156 (.iconst 4) 1 157 := ⟨by decide +kernel, rfl⟩
theorem d_X12_readText_157 : gD cX12_readText 157 (.aload_n 0) 1 158 := ⟨by decide +kernel, rfl⟩
theorem d_X12_readText_158 : gD cX12_readText 158 (.getfield 130) 3 161 := ⟨by decide +kernel, rfl⟩
theorem d_X12_readText_161 : gD cX12_readText 161 (.invokevirtual 156) 3 164 := ⟨by decide +kernel, rfl⟩
theorem d_X12_readText_164 : gD cX12_readText 164 (.aload_n 0) 1 165 := ⟨by decide +kernel, rfl⟩
theorem d_X12_readText_165 : gD cX12_readText 165 (.getfield 17) 3 168 := ⟨by decide +kernel, rfl⟩
theorem d_X12_readText_168 : gD cX12_readText 168 (.iconst 0) 1 169 := ⟨by decide +kernel, rfl⟩
theorem d_X12_readText_169 : gD cX12_readText 169 (.iload_n 2) 1 170 := ⟨by decide +kernel, rfl⟩
theorem d_X12_readText_170 : gD cX12_readText 170 (.ifCond .eq 10) 3 173 ∧ ((170 : Nat) : Int) + 10 = ((180 : Nat) : Int) := ⟨⟨by decide +kernel, rfl⟩, by decide⟩
theorem d_X12_readText_173 : gD cX12_readText 173 (.aload_n 0) 1 174 := ⟨by decide +kernel, rfl⟩
theorem d_X12_readText_174 : gD cX12_readText 174 (.getfield 146) 3 177 := ⟨by decide +kernel, rfl⟩
theorem d_X12_readText_177 : decode cX12_readText 177 = .ok (.goto 4, 3) ∧ ((177 : Nat) : Int) + 4 = ((181 : Nat) : Int) := ⟨by decide +kernel, by decide⟩
theorem d_X12_readText_180 : gD cX12_readText 180 (.iconst 1) 1 181 := ⟨by decide +kernel, rfl⟩
theorem d_X12_readText_181 : gD cX12_readText 181 (.iastore) 1 182 := ⟨by decide +kernel, rfl⟩
theorem d_X12_readText_182 : gD cX12_readText 182 (.aload_n 0) 1 183 := ⟨by decide +kernel, rfl⟩
theorem d_X12_readText_183 : gD cX12_readText 183 (.getfield 20) 3 186 := ⟨by decide +kernel, rfl⟩
theorem d_X12_readText_186 : gD cX12_readText 186 (.iconst 0) 1 187 := ⟨by decide +kernel, rfl⟩
theorem d_X12_readText_187 : gD cX12_readText 187 (.iload_n 2) 1 188 := ⟨by decide +kernel, rfl⟩
theorem d_X12_readText_188 : gD cX12_readText 188 (.ifCond .ne 10) 3 191 ∧ ((188 : Nat) : Int) + 10 = ((198 : Nat) : Int) := ⟨⟨by decide +kernel, rfl⟩, by decide⟩
theorem d_X12_readText_191 : gD cX12_readText 191 (.aload_n 0) 1 192 := ⟨by decide +kernel, rfl⟩
theorem d_X12_readText_192 : gD cX12_readText 192 (.getfield 143) 3 195 := ⟨by decide +kernel, rfl⟩
theorem d_X12_readText_195 : decode cX12_readText 195 = .ok (.goto 18, 3) ∧ ((195 : Nat) : Int) + 18 = ((213 : Nat) : Int) := ⟨by decide +kernel, by decide⟩
theorem d_X12_readText_198 : gD cX12_readText 198 (.aload_n 0) 1 199 := ⟨by decide +kernel, rfl⟩
theorem d_X12_readText_199 : gD cX12_readText 199 (.getfield 146) 3 202 := ⟨by decide +kernel, rfl⟩
theorem d_X12_readText_202 : gD cX12_readText 202 (.ifCond .le 10) 3 205 ∧ ((202 : Nat) : Int) + 10 = ((212 : Nat) : Int) := ⟨⟨by decide +kernel, rfl⟩, by decide⟩
theorem d_X12_readText_205 : gD cX12_readText 205 (.aload_n 0) 1 206 := ⟨by decide +kernel, rfl⟩
theorem d_X12_readText_206 : gD cX12_readText 206 (.getfield 149) 3 209 := ⟨by decide +kernel, rfl⟩
theorem d_X12_readText_209 : decode cX12_readText 209 = .ok (.goto 4, 3) ∧ ((209 : Nat) : Int) + 4 = ((213 : Nat) : Int) := ⟨by decide +kernel, by decide⟩
theorem d_X12_readText_212 : gD cX12_readText 212 (.iconst (-1)) 1 213 := ⟨by decide +kernel, rfl⟩
theorem d_X12_readText_213 : gD cX12_readText 213 (.iastore) 1 214 := ⟨by decide +kernel, rfl⟩
theorem d_X12_readText_214 : gD cX12_readText 214 (.aload_n 0) 1 215 := ⟨by decide +kernel, rfl⟩
theorem d_X12_readText_215 : gD cX12_readText 215 (.getfield 17) 3 218 := ⟨by decide +kernel, rfl⟩
theorem d_X12_readText_218 : gD cX12_readText 218 (.iconst 0) 1 219 := ⟨by decide +kernel, rfl⟩
theorem d_X12_readText_219 : gD cX12_readText 219 (.iaload) 1 220 := ⟨by decide +kernel, rfl⟩
theorem d_X12_readText_220 : gD cX12_readText 220 (.ifCond .ne 7) 3 223 ∧ ((220 : Nat) : Int) + 7 = ((227 : Nat) : Int) := ⟨⟨by decide +kernel, rfl⟩, by decide⟩
theorem d_X12_readText_223 : gD cX12_readText 223 (.iconst 1) 1 224 := ⟨by decide +kernel, rfl⟩
theorem d_X12_readText_224 : decode cX12_readText 224 = .ok (.goto 4, 3) ∧ ((224 : Nat) : Int) + 4 = ((228 : Nat) : Int) := ⟨by decide +kernel, by decide⟩
theorem d_X12_readText_227 : gD cX12_readText 227 (.iconst 0) 1 228 := ⟨by decide +kernel, rfl⟩
theorem d_X12_readText_228 : gD cX12_readText 228 (.ireturn) 1 229 := ⟨by decide +kernel, rfl⟩
abbrev rm_X12_readText : Room := { frames := 8, cells := 0, slots := 0, locals := 184 }
set_option maxRecDepth 20000 in
theorem w_X12_readText_213 {Γ : GC} {E : GE} (hO : gOk Γ E cX12_readText RX12 3 rm_X12_readText (some .boolean) "readText") (o : Nat) (y0 : Option Nat) (y1 : Int32) (y2 : Int32) (S : GS) : Go Γ E (gBsI Γ E) 3 (0, 0) 213 S [(0, vA (some o))] [vI y2, vI y1, vA y0] (f_X12_readText_213 o y0 y1 y2 S) := by
  unfold f_X12_readText_213
  refine h_iast hO d_X12_readText_213 (fun S1 => ?_)
  refine g_aload_n hO d_X12_readText_214 (by rfl) 0 rfl ?_
  refine h_getR hO cl_X12 3 rfl wf_X12_17 d_X12_readText_215 (fun v2 => ?_)
  refine g_iconst hO 0 d_X12_readText_218 (by decide) ?_
  refine h_iald hO d_X12_readText_219 (fun v3 => ?_)
  refine g_if_ne (tgt := 227) hO d_X12_readText_220.1 d_X12_readText_220.2 (fun _ => ?_) (fun _ => ?_)
  · skip
    refine g_iconst hO 1 d_X12_readText_223 (by decide) ?_
    refine g_goto (tgt := 228) hO d_X12_readText_224.1 d_X12_readText_224.2 ?_
    exact g_ret hO rfl rfl ⟨Nat.le_of_ble_eq_true rfl, Nat.le_of_ble_eq_true rfl⟩ rfl rfl d_X12_readText_228.1
  · skip
    refine g_iconst hO 0 d_X12_readText_227 (by decide) ?_
    exact g_ret hO rfl rfl ⟨Nat.le_of_ble_eq_true rfl, Nat.le_of_ble_eq_true rfl⟩ rfl rfl d_X12_readText_228.1
set_option maxRecDepth 20000 in
theorem w_X12_readText_181 {Γ : GC} {E : GE} (hO : gOk Γ E cX12_readText RX12 3 rm_X12_readText (some .boolean) "readText") (o : Nat) (x2 : Int32) (y0 : Option Nat) (y1 : Int32) (y2 : Int32) (S : GS) : Go Γ E (gBsI Γ E) 3 (0, 0) 181 S [(0, vA (some o)), (2, vI x2)] [vI y2, vI y1, vA y0] (f_X12_readText_181 o x2 y0 y1 y2 S) := by
  unfold f_X12_readText_181
  refine h_iast hO d_X12_readText_181 (fun S1 => ?_)
  refine g_aload_n hO d_X12_readText_182 (by rfl) 0 rfl ?_
  refine h_getR hO cl_X12 4 rfl wf_X12_20 d_X12_readText_183 (fun v2 => ?_)
  refine g_iconst hO 0 d_X12_readText_186 (by decide) ?_
  refine g_iload_n hO d_X12_readText_187 (by rfl) 1 rfl ?_
  refine g_if_ne (tgt := 198) hO d_X12_readText_188.1 d_X12_readText_188.2 (fun _ => ?_) (fun _ => ?_)
  · skip
    refine g_aload_n hO d_X12_readText_191 (by rfl) 0 rfl ?_
    refine h_getI hO cl_X12 18 rfl wf_X12_143 d_X12_readText_192 (fun v3 => ?_)
    refine g_goto (tgt := 213) hO d_X12_readText_195.1 d_X12_readText_195.2 ?_
    exact g_sub [0] rfl (w_X12_readText_213 hO o _ _ _ _)
  · skip
    refine g_aload_n hO d_X12_readText_198 (by rfl) 0 rfl ?_
    refine h_getI hO cl_X12 19 rfl wf_X12_146 d_X12_readText_199 (fun v4 => ?_)
    refine g_if_le (tgt := 212) hO d_X12_readText_202.1 d_X12_readText_202.2 (fun _ => ?_) (fun _ => ?_)
    · skip
      refine g_iconst hO (-1) d_X12_readText_212 (by decide) ?_
      exact g_sub [0] rfl (w_X12_readText_213 hO o _ _ _ _)
    · skip
      refine g_aload_n hO d_X12_readText_205 (by rfl) 0 rfl ?_
      refine h_getI hO cl_X12 20 rfl wf_X12_149 d_X12_readText_206 (fun v5 => ?_)
      refine g_goto (tgt := 213) hO d_X12_readText_209.1 d_X12_readText_209.2 ?_
      exact g_sub [0] rfl (w_X12_readText_213 hO o _ _ _ _)
set_option maxRecDepth 20000 in
theorem w_X12_readText_164 {Γ : GC} {E : GE} (hO : gOk Γ E cX12_readText RX12 3 rm_X12_readText (some .boolean) "readText") (o : Nat) (x2 : Int32) (S : GS) : Go Γ E (gBsI Γ E) 3 (0, 0) 164 S [(0, vA (some o)), (2, vI x2)] [] (f_X12_readText_164 o x2 S) := by
  unfold f_X12_readText_164
  refine g_aload_n hO d_X12_readText_164 (by rfl) 0 rfl ?_
  refine h_getR hO cl_X12 3 rfl wf_X12_17 d_X12_readText_165 (fun v1 => ?_)
  refine g_iconst hO 0 d_X12_readText_168 (by decide) ?_
  refine g_iload_n hO d_X12_readText_169 (by rfl) 1 rfl ?_
  refine g_if_eq (tgt := 180) hO d_X12_readText_170.1 d_X12_readText_170.2 (fun _ => ?_) (fun _ => ?_)
  · skip
    refine g_iconst hO 1 d_X12_readText_180 (by decide) ?_
    exact g_sub [0, 1] rfl (w_X12_readText_181 hO o _ _ _ _ _)
  · skip
    refine g_aload_n hO d_X12_readText_173 (by rfl) 0 rfl ?_
    refine h_getI hO cl_X12 19 rfl wf_X12_146 d_X12_readText_174 (fun v2 => ?_)
    refine g_goto (tgt := 181) hO d_X12_readText_177.1 d_X12_readText_177.2 ?_
    exact g_sub [0, 1] rfl (w_X12_readText_181 hO o _ _ _ _ _)
set_option maxRecDepth 20000 in
theorem w_X12_readText_155 {Γ : GC} {E : GE} (hO : gOk Γ E cX12_readText RX12 3 rm_X12_readText (some .boolean) "readText") (o : Nat) (x2 : Int32) (S : GS) : Go Γ E (gBsI Γ E) 3 (0, 0) 155 S [(0, vA (some o)), (2, vI x2)] [] (f_X12_readText_155 o x2 S) := by
  unfold f_X12_readText_155
  refine g_aload_n hO d_X12_readText_155 (by rfl) 0 rfl ?_
  refine g_iconst hO 4 d_X12_readText_156 (by decide) ?_
  refine g_aload_n hO d_X12_readText_157 (by rfl) 0 rfl ?_
  refine h_getI hO cl_X12 14 rfl wf_X12_130 d_X12_readText_158 (fun v1 => ?_)
  refine k_virtVs hO cl_X12 mm_X12_later lkV_X12_156 ⟨⟨Nat.le_of_ble_eq_true rfl, Nat.le_of_ble_eq_true rfl⟩, Nat.le_of_ble_eq_true rfl, Nat.le_of_ble_eq_true rfl⟩ (kn' := (0, 0)) rfl (As := [vI 4, vI v1]) rfl (Nat.le_of_ble_eq_true rfl) (fun o' _ => t_X12_later Γ.2.1 E o' 4 v1 S) d_X12_readText_161 rfl (fun S3 => ?_)
  exact g_sub [0, 1] rfl (w_X12_readText_164 hO o _ _)
set_option maxRecDepth 20000 in
theorem w_X12_readText_71 {Γ : GC} {E : GE} (hO : gOk Γ E cX12_readText RX12 3 rm_X12_readText (some .boolean) "readText") (o : Nat) (x1 : Int32) (S : GS) : Go Γ E (gBsI Γ E) 3 (0, 0) 71 S [(0, vA (some o)), (1, vI x1)] [] (f_X12_readText_71 o x1 S) := by
  unfold f_X12_readText_71
  refine g_aload_n hO d_X12_readText_71 (by rfl) 0 rfl ?_
  refine g_iconst hO (-1) d_X12_readText_72 (by decide) ?_
  refine h_putI hO cl_X12 23 rfl rfl wf_X12_170 (Or.inl rfl) d_X12_readText_73 (fun S1 => ?_)
  refine g_aload_n hO d_X12_readText_76 (by rfl) 0 rfl ?_
  refine g_lconst hO 0 d_X12_readText_77 (by decide) ?_
  refine h_putJ hO cl_X12 24 rfl rfl wf_X12_181 (Or.inl rfl) d_X12_readText_78 (fun S2 => ?_)
  refine g_aload_n hO d_X12_readText_81 (by rfl) 0 rfl ?_
  refine g_iconst hO 0 d_X12_readText_82 (by decide) ?_
  refine h_putI hO cl_X12 12 rfl rfl wf_X12_120 (Or.inl rfl) d_X12_readText_83 (fun S3 => ?_)
  refine g_aload_n hO d_X12_readText_86 (by rfl) 0 rfl ?_
  refine g_iconst hO 0 d_X12_readText_87 (by decide) ?_
  refine h_putI hO cl_X12 19 rfl rfl wf_X12_146 (Or.inl rfl) d_X12_readText_88 (fun S4 => ?_)
  refine g_aload_n hO d_X12_readText_91 (by rfl) 0 rfl ?_
  refine k_virtVs hO cl_X12 mm_X12_token lkV_X12_160 ⟨⟨Nat.le_of_ble_eq_true rfl, Nat.le_of_ble_eq_true rfl⟩, Nat.le_of_ble_eq_true rfl, Nat.le_of_ble_eq_true rfl⟩ (kn' := (0, 0)) rfl (As := []) rfl (Nat.le_of_ble_eq_true rfl) (fun o' _ => t_X12_token Γ.2.1 E o' S4) d_X12_readText_92 rfl (fun S6 => ?_)
  refine g_aload_n hO d_X12_readText_95 (by rfl) 0 rfl ?_
  refine g_iload_n hO d_X12_readText_96 (by rfl) 1 rfl ?_
  refine k_virtIs hO cl_X12 mm_X12_lines lkV_X12_268 ⟨⟨Nat.le_of_ble_eq_true rfl, Nat.le_of_ble_eq_true rfl⟩, Nat.le_of_ble_eq_true rfl, Nat.le_of_ble_eq_true rfl⟩ (kn' := (0, 0)) rfl (As := [vI x1]) rfl (Nat.le_of_ble_eq_true rfl) (fun o' _ => t_X12_lines Γ.2.1 E o' x1 S6) d_X12_readText_97 rfl (fun v7 S8 => ?_)
  refine g_istore_n (lv' := [(2, vI v7), (0, vA (some o)), (1, vI x1)]) hO d_X12_readText_100 (by rfl) (by decide) rfl ?_
  refine g_iload_n hO d_X12_readText_101 (by rfl) 0 rfl ?_
  refine g_if_eq (tgt := 164) hO d_X12_readText_102.1 d_X12_readText_102.2 (fun _ => ?_) (fun _ => ?_)
  · skip
    exact g_sub [1, 0] rfl (w_X12_readText_164 hO o _ _)
  · skip
    refine g_iload_n hO d_X12_readText_105 (by rfl) 2 rfl ?_
    refine g_if_ne (tgt := 164) hO d_X12_readText_106.1 d_X12_readText_106.2 (fun _ => ?_) (fun _ => ?_)
    · skip
      refine g_aload_n hO d_X12_readText_109 (by rfl) 1 rfl ?_
      refine h_getI hO cl_X12 19 rfl wf_X12_146 d_X12_readText_110 (fun v9 => ?_)
      refine g_if_ne (tgt := 164) hO d_X12_readText_113.1 d_X12_readText_113.2 (fun _ => ?_) (fun _ => ?_)
      · skip
        refine g_aload_n hO d_X12_readText_116 (by rfl) 1 rfl ?_
        refine h_getI hO cl_X12 23 rfl wf_X12_170 d_X12_readText_117 (fun v10 => ?_)
        refine g_aload_n hO d_X12_readText_120 (by rfl) 1 rfl ?_
        refine h_getR hO cl_X12 21 rfl wf_X12_44 d_X12_readText_121 (fun v11 => ?_)
        refine g_iconst hO 0 d_X12_readText_124 (by decide) ?_
        refine h_iald hO d_X12_readText_125 (fun v12 => ?_)
        refine g_ic_ge (tgt := 155) hO d_X12_readText_126.1 d_X12_readText_126.2 (fun _ => ?_) (fun _ => ?_)
        · skip
          exact g_sub [1, 0] rfl (w_X12_readText_155 hO o _ _)
        · skip
          refine g_aload_n hO d_X12_readText_129 (by rfl) 1 rfl ?_
          refine h_getR hO cl_X12 21 rfl wf_X12_44 d_X12_readText_130 (fun v13 => ?_)
          refine g_bipush hO 6 d_X12_readText_133 (by decide) ?_
          refine h_iald hO d_X12_readText_135 (fun v14 => ?_)
          refine g_aload_n hO d_X12_readText_136 (by rfl) 1 rfl ?_
          refine h_getR hO cl_X12 21 rfl wf_X12_44 d_X12_readText_137 (fun v15 => ?_)
          refine g_bipush hO 7 d_X12_readText_140 (by decide) ?_
          refine h_iald hO d_X12_readText_142 (fun v16 => ?_)
          refine g_iadd hO d_X12_readText_143 ?_
          refine g_aload_n hO d_X12_readText_144 (by rfl) 1 rfl ?_
          refine h_getR hO cl_X12 21 rfl wf_X12_44 d_X12_readText_145 (fun v17 => ?_)
          refine g_bipush hO 8 d_X12_readText_148 (by decide) ?_
          refine h_iald hO d_X12_readText_150 (fun v18 => ?_)
          refine g_iadd hO d_X12_readText_151 ?_
          refine g_if_ne (tgt := 164) hO d_X12_readText_152.1 d_X12_readText_152.2 (fun _ => ?_) (fun _ => ?_)
          · skip
            exact g_sub [1, 0] rfl (w_X12_readText_155 hO o _ _)
          · skip
            exact g_sub [1, 0] rfl (w_X12_readText_164 hO o _ _)
      · skip
        exact g_sub [1, 0] rfl (w_X12_readText_164 hO o _ _)
    · skip
      exact g_sub [1, 0] rfl (w_X12_readText_164 hO o _ _)
set_option maxRecDepth 20000 in
theorem w_X12_readText_2 {Γ : GC} {E : GE} (hO : gOk Γ E cX12_readText RX12 3 rm_X12_readText (some .boolean) "readText") (o : Nat) : ∀ (n : Nat) (x1 : Int32) (x2 : Int32) (S : GS), Go Γ E (gBsI Γ E) 3 (0, 0) 2 S [(0, vA (some o)), (1, vI x1), (2, vI x2)] [] (f_X12_readText_2 o n x1 x2 S) := by
  intro n
  induction n with
  | zero =>
    intro x1 x2 S
    exact g_none
  | succ n ih =>
    intro x1 x2 S
    rw [f_X12_readText_2]
    refine g_iload_n hO d_X12_readText_2 (by rfl) 2 rfl ?_
    refine g_bipush hO 122 d_X12_readText_3 (by decide) ?_
    refine g_ic_ge (tgt := 21) hO d_X12_readText_5.1 d_X12_readText_5.2 (fun _ => ?_) (fun _ => ?_)
    · skip
      refine g_iload_n hO d_X12_readText_21 (by rfl) 1 rfl ?_
      refine g_if_ne (tgt := 71) hO d_X12_readText_22.1 d_X12_readText_22.2 (fun _ => ?_) (fun _ => ?_)
      · skip
        refine g_aload_n hO d_X12_readText_25 (by rfl) 0 rfl ?_
        refine h_getR hO cl_X12 21 rfl wf_X12_44 d_X12_readText_26 (fun v1 => ?_)
        refine g_iconst hO 3 d_X12_readText_29 (by decide) ?_
        refine g_iconst hO 2 d_X12_readText_30 (by decide) ?_
        refine h_iast hO d_X12_readText_31 (fun S2 => ?_)
        refine g_aload_n hO d_X12_readText_32 (by rfl) 0 rfl ?_
        refine h_getR hO cl_X12 21 rfl wf_X12_44 d_X12_readText_33 (fun v3 => ?_)
        refine g_iconst hO 4 d_X12_readText_36 (by decide) ?_
        refine g_iconst hO 3 d_X12_readText_37 (by decide) ?_
        refine h_iast hO d_X12_readText_38 (fun S4 => ?_)
        refine g_aload_n hO d_X12_readText_39 (by rfl) 0 rfl ?_
        refine h_getR hO cl_X12 21 rfl wf_X12_44 d_X12_readText_40 (fun v5 => ?_)
        refine g_iconst hO 5 d_X12_readText_43 (by decide) ?_
        refine g_bipush hO 30 d_X12_readText_44 (by decide) ?_
        refine h_iast hO d_X12_readText_46 (fun S6 => ?_)
        refine g_aload_n hO d_X12_readText_47 (by rfl) 0 rfl ?_
        refine h_getR hO cl_X12 21 rfl wf_X12_44 d_X12_readText_48 (fun v7 => ?_)
        refine g_bipush hO 6 d_X12_readText_51 (by decide) ?_
        refine g_iconst hO 1 d_X12_readText_53 (by decide) ?_
        refine h_iast hO d_X12_readText_54 (fun S8 => ?_)
        refine g_aload_n hO d_X12_readText_55 (by rfl) 0 rfl ?_
        refine h_getR hO cl_X12 21 rfl wf_X12_44 d_X12_readText_56 (fun v9 => ?_)
        refine g_bipush hO 7 d_X12_readText_59 (by decide) ?_
        refine g_iconst hO 1 d_X12_readText_61 (by decide) ?_
        refine h_iast hO d_X12_readText_62 (fun S10 => ?_)
        refine g_aload_n hO d_X12_readText_63 (by rfl) 0 rfl ?_
        refine h_getR hO cl_X12 21 rfl wf_X12_44 d_X12_readText_64 (fun v11 => ?_)
        refine g_bipush hO 8 d_X12_readText_67 (by decide) ?_
        refine g_iconst hO 1 d_X12_readText_69 (by decide) ?_
        refine h_iast hO d_X12_readText_70 (fun S12 => ?_)
        exact g_sub [0, 1] rfl (w_X12_readText_71 hO o _ _)
      · skip
        exact g_sub [0, 1] rfl (w_X12_readText_71 hO o _ _)
    · skip
      refine g_aload_n hO d_X12_readText_8 (by rfl) 0 rfl ?_
      refine h_getR hO cl_X12 21 rfl wf_X12_44 d_X12_readText_9 (fun v13 => ?_)
      refine g_iload_n hO d_X12_readText_12 (by rfl) 2 rfl ?_
      refine g_iconst hO 0 d_X12_readText_13 (by decide) ?_
      refine h_iast hO d_X12_readText_14 (fun S14 => ?_)
      refine g_iinc (lv' := [(2, vI (x2 + 1)), (0, vA (some o)), (1, vI x1)]) hO 1 d_X12_readText_15 (by decide) 2 rfl (by decide) rfl ?_
      refine g_goto (tgt := 2) hO d_X12_readText_18.1 d_X12_readText_18.2 ?_
      exact g_sub [1, 2, 0] rfl (ih _ _ _)
set_option maxRecDepth 20000 in
theorem w_X12_readText {Γ : GC} {E : GE} (hO : gOk Γ E cX12_readText RX12 3 rm_X12_readText (some .boolean) "readText") (o : Nat) (x1 : Int32) (S : GS) : Go Γ E (gBsI Γ E) 3 (0, 0) 0 S [(0, vA (some o)), (1, vI x1)] [] (f_X12_readText o x1 S) := by
  unfold f_X12_readText
  refine g_iconst hO 0 d_X12_readText_0 (by decide) ?_
  refine g_istore_n (lv' := [(2, vI 0), (0, vA (some o)), (1, vI x1)]) hO d_X12_readText_1 (by rfl) (by decide) rfl ?_
  exact g_sub [1, 2, 0] rfl (w_X12_readText_2 hO o _ _ _ _)
theorem t_X12_readText (l : Launch) (E : GE) (o : Nat) (x1 : Int32) (S : GS) : ∀ a, f_X12_readText o x1 S = some a → Ct l E yX12_readText cX12_readText 3 (some .boolean) rm_X12_readText [vA (some o), vI x1] S (some (vI a.1)) a.2 :=
  Ct_of (val := fun (b : Int32 × GS) => some (vI b.1)) (nxt := fun (b : Int32 × GS) => b.2) (by decide) (Nat.le_of_ble_eq_true rfl) (fun Γ hl hO => w_X12_readText hO o x1 S)
theorem d_X12_store_0 : gD cX12_store 0 (.iconst 0) 1 1 := ⟨by decide +kernel, rfl⟩
theorem d_X12_store_1 : gD cX12_store 1 (.istore 4) 2 3 := ⟨by decide +kernel, rfl⟩
theorem d_X12_store_3 : gD cX12_store 3 (.iload 4) 2 5 := ⟨by decide +kernel, rfl⟩
theorem d_X12_store_5 : gD cX12_store 5 (.iload_n 2) 1 6 := ⟨by decide +kernel, rfl⟩
theorem d_X12_store_6 : gD cX12_store 6 (.if_icmp .ge 24) 3 9 ∧ ((6 : Nat) : Int) + 24 = ((30 : Nat) : Int) := ⟨⟨by decide +kernel, rfl⟩, by decide⟩
theorem d_X12_store_9 : gD cX12_store 9 (.aload_n 1) 1 10 := ⟨by decide +kernel, rfl⟩
theorem d_X12_store_10 : gD cX12_store 10 (.iload_n 2) 1 11 := ⟨by decide +kernel, rfl⟩
theorem d_X12_store_11 : gD cX12_store 11 (.iload_n 3) 1 12 := ⟨by decide +kernel, rfl⟩
theorem d_X12_store_12 : gD cX12_store 12 (.imul) 1 13 := ⟨by decide +kernel, rfl⟩
theorem d_X12_store_13 : gD cX12_store 13 (.iload 4) 2 15 := ⟨by decide +kernel, rfl⟩
theorem d_X12_store_15 : gD cX12_store 15 (.iadd) 1 16 := ⟨by decide +kernel, rfl⟩
theorem d_X12_store_16 : gD cX12_store 16 (.aload_n 0) 1 17 := ⟨by decide +kernel, rfl⟩
theorem d_X12_store_17 : gD cX12_store 17 (.getfield 44) 3 20 := ⟨by decide +kernel, rfl⟩
theorem d_X12_store_20 : gD cX12_store 20 (.iload 4) 2 22 := ⟨by decide +kernel, rfl⟩
theorem d_X12_store_22 : gD cX12_store 22 (.iaload) 1 23 := ⟨by decide +kernel, rfl⟩
theorem d_X12_store_23 : gD cX12_store 23 (.iastore) 1 24 := ⟨by decide +kernel, rfl⟩
theorem d_X12_store_24 : gD cX12_store 24 (.iinc 4 1) 3 27 := ⟨by decide +kernel, rfl⟩
theorem d_X12_store_27 : decode cX12_store 27 = .ok (.goto (-24), 3) ∧ ((27 : Nat) : Int) + (-24) = ((3 : Nat) : Int) := ⟨by decide +kernel, by decide⟩
theorem d_X12_store_30 : gD cX12_store 30 (.return_) 1 31 := ⟨by decide +kernel, rfl⟩
abbrev rm_X12_store : Room := { frames := 0, cells := 0, slots := 0, locals := 0 }
set_option maxRecDepth 20000 in
theorem w_X12_store_3 {Γ : GC} {E : GE} (hO : gOk Γ E cX12_store RX12 5 rm_X12_store none "store") (o : Nat) : ∀ (n : Nat) (x1 : Option Nat) (x2 : Int32) (x3 : Int32) (x4 : Int32) (S : GS), Go Γ E (gBsV Γ E) 5 (0, 0) 3 S [(0, vA (some o)), (1, vA x1), (2, vI x2), (3, vI x3), (4, vI x4)] [] (f_X12_store_3 o n x1 x2 x3 x4 S) := by
  intro n
  induction n with
  | zero =>
    intro x1 x2 x3 x4 S
    exact g_none
  | succ n ih =>
    intro x1 x2 x3 x4 S
    rw [f_X12_store_3]
    refine g_iload hO d_X12_store_3 4 rfl ?_
    refine g_iload_n hO d_X12_store_5 (by rfl) 2 rfl ?_
    refine g_ic_ge (tgt := 30) hO d_X12_store_6.1 d_X12_store_6.2 (fun _ => ?_) (fun _ => ?_)
    · skip
      exact g_vret hO rfl ⟨Nat.le_of_ble_eq_true rfl, Nat.le_of_ble_eq_true rfl⟩ rfl rfl d_X12_store_30.1
    · skip
      refine g_aload_n hO d_X12_store_9 (by rfl) 1 rfl ?_
      refine g_iload_n hO d_X12_store_10 (by rfl) 2 rfl ?_
      refine g_iload_n hO d_X12_store_11 (by rfl) 3 rfl ?_
      refine g_imul hO d_X12_store_12 ?_
      refine g_iload hO d_X12_store_13 4 rfl ?_
      refine g_iadd hO d_X12_store_15 ?_
      refine g_aload_n hO d_X12_store_16 (by rfl) 0 rfl ?_
      refine h_getR hO cl_X12 21 rfl wf_X12_44 d_X12_store_17 (fun v1 => ?_)
      refine g_iload hO d_X12_store_20 4 rfl ?_
      refine h_iald hO d_X12_store_22 (fun v2 => ?_)
      refine h_iast hO d_X12_store_23 (fun S3 => ?_)
      refine g_iinc (lv' := [(4, vI (x4 + 1)), (0, vA (some o)), (1, vA x1), (2, vI x2), (3, vI x3)]) hO 1 d_X12_store_24 (by decide) 4 rfl (by decide) rfl ?_
      refine g_goto (tgt := 3) hO d_X12_store_27.1 d_X12_store_27.2 ?_
      exact g_sub [1, 2, 3, 4, 0] rfl (ih _ _ _ _ _)
set_option maxRecDepth 20000 in
theorem w_X12_store {Γ : GC} {E : GE} (hO : gOk Γ E cX12_store RX12 5 rm_X12_store none "store") (o : Nat) (x1 : Option Nat) (x2 : Int32) (x3 : Int32) (S : GS) : Go Γ E (gBsV Γ E) 5 (0, 0) 0 S [(0, vA (some o)), (1, vA x1), (2, vI x2), (3, vI x3)] [] (f_X12_store o x1 x2 x3 S) := by
  unfold f_X12_store
  refine g_iconst hO 0 d_X12_store_0 (by decide) ?_
  refine g_istore (lv' := [(4, vI 0), (0, vA (some o)), (1, vA x1), (2, vI x2), (3, vI x3)]) hO d_X12_store_1 (by decide) rfl ?_
  exact g_sub [1, 2, 3, 4, 0] rfl (w_X12_store_3 hO o _ _ _ _ _ _)
theorem t_X12_store (l : Launch) (E : GE) (o : Nat) (x1 : Option Nat) (x2 : Int32) (x3 : Int32) (S : GS) : ∀ a, f_X12_store o x1 x2 x3 S = some a → Ct l E yX12_store cX12_store 5 none rm_X12_store [vA (some o), vA x1, vI x2, vI x3] S none a :=
  Ct_of (val := fun _ => none) (nxt := fun b => b) (by decide) (Nat.le_of_ble_eq_true rfl) (fun Γ hl hO => w_X12_store hO o x1 x2 x3 S)
theorem d_X12_storeAll_0 : gD cX12_storeAll 0 (.iload_n 1) 1 1 := ⟨by decide +kernel, rfl⟩
theorem d_X12_storeAll_1 : decode cX12_storeAll 1 = .ok (.tableswitch 95 0 4 #[35, 47, 59, 71, 83], 35) ∧ ((1 : Nat) : Int) + 95 = ((96 : Nat) : Int) := ⟨by decide +kernel, by decide⟩
theorem d_X12_storeAll_36 : gD cX12_storeAll 36 (.aload_n 0) 1 37 := ⟨by decide +kernel, rfl⟩
theorem d_X12_storeAll_37 : gD cX12_storeAll 37 (.aload_n 0) 1 38 := ⟨by decide +kernel, rfl⟩
theorem d_X12_storeAll_38 : gD cX12_storeAll 38 (.getfield 26) 3 41 := ⟨by decide +kernel, rfl⟩
theorem d_X12_storeAll_41 : gD cX12_storeAll 41 (.bipush 69) 2 43 := ⟨by decide +kernel, rfl⟩
theorem d_X12_storeAll_43 : gD cX12_storeAll 43 (.iload_n 2) 1 44 := ⟨by decide +kernel, rfl⟩
theorem d_X12_storeAll_44 : gD cX12_storeAll 44 (.invokevirtual 271) 3 47 := ⟨by decide +kernel, rfl⟩
theorem d_X12_storeAll_47 : gD cX12_storeAll 47 (.return_) 1 48 := ⟨by decide +kernel, rfl⟩
theorem d_X12_storeAll_48 : gD cX12_storeAll 48 (.aload_n 0) 1 49 := ⟨by decide +kernel, rfl⟩
theorem d_X12_storeAll_49 : gD cX12_storeAll 49 (.aload_n 0) 1 50 := ⟨by decide +kernel, rfl⟩
theorem d_X12_storeAll_50 : gD cX12_storeAll 50 (.getfield 29) 3 53 := ⟨by decide +kernel, rfl⟩
theorem d_X12_storeAll_53 : gD cX12_storeAll 53 (.bipush 121) 2 55 := ⟨by decide +kernel, rfl⟩
theorem d_X12_storeAll_55 : gD cX12_storeAll 55 (.iload_n 2) 1 56 := ⟨by decide +kernel, rfl⟩
theorem d_X12_storeAll_56 : gD cX12_storeAll 56 (.invokevirtual 271) 3 59 := ⟨by decide +kernel, rfl⟩
theorem d_X12_storeAll_59 : gD cX12_storeAll 59 (.return_) 1 60 := ⟨by decide +kernel, rfl⟩
theorem d_X12_storeAll_60 : gD cX12_storeAll 60 (.aload_n 0) 1 61 := ⟨by decide +kernel, rfl⟩
theorem d_X12_storeAll_61 : gD cX12_storeAll 61 (.aload_n 0) 1 62 := ⟨by decide +kernel, rfl⟩
theorem d_X12_storeAll_62 : gD cX12_storeAll 62 (.getfield 32) 3 65 := ⟨by decide +kernel, rfl⟩
theorem d_X12_storeAll_65 : gD cX12_storeAll 65 (.bipush 17) 2 67 := ⟨by decide +kernel, rfl⟩
theorem d_X12_storeAll_67 : gD cX12_storeAll 67 (.iload_n 2) 1 68 := ⟨by decide +kernel, rfl⟩
theorem d_X12_storeAll_68 : gD cX12_storeAll 68 (.invokevirtual 271) 3 71 := ⟨by decide +kernel, rfl⟩
theorem d_X12_storeAll_71 : gD cX12_storeAll 71 (.return_) 1 72 := ⟨by decide +kernel, rfl⟩
theorem d_X12_storeAll_72 : gD cX12_storeAll 72 (.aload_n 0) 1 73 := ⟨by decide +kernel, rfl⟩
theorem d_X12_storeAll_73 : gD cX12_storeAll 73 (.aload_n 0) 1 74 := ⟨by decide +kernel, rfl⟩
theorem d_X12_storeAll_74 : gD cX12_storeAll 74 (.getfield 35) 3 77 := ⟨by decide +kernel, rfl⟩
theorem d_X12_storeAll_77 : gD cX12_storeAll 77 (.bipush 122) 2 79 := ⟨by decide +kernel, rfl⟩
theorem d_X12_storeAll_79 : gD cX12_storeAll 79 (.iload_n 2) 1 80 := ⟨by decide +kernel, rfl⟩
theorem d_X12_storeAll_80 : gD cX12_storeAll 80 (.invokevirtual 271) 3 83 := ⟨by decide +kernel, rfl⟩
theorem d_X12_storeAll_83 : gD cX12_storeAll 83 (.return_) 1 84 := ⟨by decide +kernel, rfl⟩
theorem d_X12_storeAll_84 : gD cX12_storeAll 84 (.aload_n 0) 1 85 := ⟨by decide +kernel, rfl⟩
theorem d_X12_storeAll_85 : gD cX12_storeAll 85 (.aload_n 0) 1 86 := ⟨by decide +kernel, rfl⟩
theorem d_X12_storeAll_86 : gD cX12_storeAll 86 (.getfield 38) 3 89 := ⟨by decide +kernel, rfl⟩
theorem d_X12_storeAll_89 : gD cX12_storeAll 89 (.bipush 91) 2 91 := ⟨by decide +kernel, rfl⟩
theorem d_X12_storeAll_91 : gD cX12_storeAll 91 (.iload_n 2) 1 92 := ⟨by decide +kernel, rfl⟩
theorem d_X12_storeAll_92 : gD cX12_storeAll 92 (.invokevirtual 271) 3 95 := ⟨by decide +kernel, rfl⟩
theorem d_X12_storeAll_95 : gD cX12_storeAll 95 (.return_) 1 96 := ⟨by decide +kernel, rfl⟩
theorem d_X12_storeAll_96 : gD cX12_storeAll 96 (.aload_n 0) 1 97 := ⟨by decide +kernel, rfl⟩
theorem d_X12_storeAll_97 : gD cX12_storeAll 97 (.aload_n 0) 1 98 := ⟨by decide +kernel, rfl⟩
theorem d_X12_storeAll_98 : gD cX12_storeAll 98 (.getfield 41) 3 101 := ⟨by decide +kernel, rfl⟩
theorem d_X12_storeAll_101 : gD cX12_storeAll 101 (.bipush 21) 2 103 := ⟨by decide +kernel, rfl⟩
theorem d_X12_storeAll_103 : gD cX12_storeAll 103 (.iload_n 2) 1 104 := ⟨by decide +kernel, rfl⟩
theorem d_X12_storeAll_104 : gD cX12_storeAll 104 (.invokevirtual 271) 3 107 := ⟨by decide +kernel, rfl⟩
theorem d_X12_storeAll_107 : gD cX12_storeAll 107 (.return_) 1 108 := ⟨by decide +kernel, rfl⟩
abbrev rm_X12_storeAll : Room := { frames := 1, cells := 0, slots := 0, locals := 24 }
set_option maxRecDepth 20000 in
theorem w_X12_storeAll {Γ : GC} {E : GE} (hO : gOk Γ E cX12_storeAll RX12 3 rm_X12_storeAll none "storeAll") (o : Nat) (x1 : Int32) (x2 : Int32) (S : GS) : Go Γ E (gBsV Γ E) 3 (0, 0) 0 S [(0, vA (some o)), (1, vI x1), (2, vI x2)] [] (f_X12_storeAll o x1 x2 S) := by
  unfold f_X12_storeAll
  refine g_iload_n hO d_X12_storeAll_0 (by rfl) 1 rfl ?_
  refine h_tsw (c := 0) (dt := 96) hO d_X12_storeAll_1.1 5 (by decide) (by rfl) rfl (by decide) (by decide) d_X12_storeAll_1.2 ⟨⟨36, by decide, ?_⟩, ⟨48, by decide, ?_⟩, ⟨60, by decide, ?_⟩, ⟨72, by decide, ?_⟩, ⟨84, by decide, ?_⟩, trivial⟩ ?_
  · skip
    refine g_aload_n hO d_X12_storeAll_36 (by rfl) 0 rfl ?_
    refine g_aload_n hO d_X12_storeAll_37 (by rfl) 0 rfl ?_
    refine h_getR hO cl_X12 6 rfl wf_X12_26 d_X12_storeAll_38 (fun v1 => ?_)
    refine g_bipush hO 69 d_X12_storeAll_41 (by decide) ?_
    refine g_iload_n hO d_X12_storeAll_43 (by rfl) 2 rfl ?_
    refine k_virtVs hO cl_X12 mm_X12_store lkV_X12_271 ⟨⟨Nat.le_of_ble_eq_true rfl, Nat.le_of_ble_eq_true rfl⟩, Nat.le_of_ble_eq_true rfl, Nat.le_of_ble_eq_true rfl⟩ (kn' := (0, 0)) rfl (As := [vA v1, vI 69, vI x2]) rfl (Nat.le_of_ble_eq_true rfl) (fun o' _ => t_X12_store Γ.2.1 E o' v1 69 x2 S) d_X12_storeAll_44 rfl (fun S3 => ?_)
    exact g_vret hO rfl ⟨Nat.le_of_ble_eq_true rfl, Nat.le_of_ble_eq_true rfl⟩ rfl rfl d_X12_storeAll_47.1
  · skip
    refine g_aload_n hO d_X12_storeAll_48 (by rfl) 0 rfl ?_
    refine g_aload_n hO d_X12_storeAll_49 (by rfl) 0 rfl ?_
    refine h_getR hO cl_X12 7 rfl wf_X12_29 d_X12_storeAll_50 (fun v4 => ?_)
    refine g_bipush hO 121 d_X12_storeAll_53 (by decide) ?_
    refine g_iload_n hO d_X12_storeAll_55 (by rfl) 2 rfl ?_
    refine k_virtVs hO cl_X12 mm_X12_store lkV_X12_271 ⟨⟨Nat.le_of_ble_eq_true rfl, Nat.le_of_ble_eq_true rfl⟩, Nat.le_of_ble_eq_true rfl, Nat.le_of_ble_eq_true rfl⟩ (kn' := (0, 0)) rfl (As := [vA v4, vI 121, vI x2]) rfl (Nat.le_of_ble_eq_true rfl) (fun o' _ => t_X12_store Γ.2.1 E o' v4 121 x2 S) d_X12_storeAll_56 rfl (fun S6 => ?_)
    exact g_vret hO rfl ⟨Nat.le_of_ble_eq_true rfl, Nat.le_of_ble_eq_true rfl⟩ rfl rfl d_X12_storeAll_59.1
  · skip
    refine g_aload_n hO d_X12_storeAll_60 (by rfl) 0 rfl ?_
    refine g_aload_n hO d_X12_storeAll_61 (by rfl) 0 rfl ?_
    refine h_getR hO cl_X12 8 rfl wf_X12_32 d_X12_storeAll_62 (fun v7 => ?_)
    refine g_bipush hO 17 d_X12_storeAll_65 (by decide) ?_
    refine g_iload_n hO d_X12_storeAll_67 (by rfl) 2 rfl ?_
    refine k_virtVs hO cl_X12 mm_X12_store lkV_X12_271 ⟨⟨Nat.le_of_ble_eq_true rfl, Nat.le_of_ble_eq_true rfl⟩, Nat.le_of_ble_eq_true rfl, Nat.le_of_ble_eq_true rfl⟩ (kn' := (0, 0)) rfl (As := [vA v7, vI 17, vI x2]) rfl (Nat.le_of_ble_eq_true rfl) (fun o' _ => t_X12_store Γ.2.1 E o' v7 17 x2 S) d_X12_storeAll_68 rfl (fun S9 => ?_)
    exact g_vret hO rfl ⟨Nat.le_of_ble_eq_true rfl, Nat.le_of_ble_eq_true rfl⟩ rfl rfl d_X12_storeAll_71.1
  · skip
    refine g_aload_n hO d_X12_storeAll_72 (by rfl) 0 rfl ?_
    refine g_aload_n hO d_X12_storeAll_73 (by rfl) 0 rfl ?_
    refine h_getR hO cl_X12 9 rfl wf_X12_35 d_X12_storeAll_74 (fun v10 => ?_)
    refine g_bipush hO 122 d_X12_storeAll_77 (by decide) ?_
    refine g_iload_n hO d_X12_storeAll_79 (by rfl) 2 rfl ?_
    refine k_virtVs hO cl_X12 mm_X12_store lkV_X12_271 ⟨⟨Nat.le_of_ble_eq_true rfl, Nat.le_of_ble_eq_true rfl⟩, Nat.le_of_ble_eq_true rfl, Nat.le_of_ble_eq_true rfl⟩ (kn' := (0, 0)) rfl (As := [vA v10, vI 122, vI x2]) rfl (Nat.le_of_ble_eq_true rfl) (fun o' _ => t_X12_store Γ.2.1 E o' v10 122 x2 S) d_X12_storeAll_80 rfl (fun S12 => ?_)
    exact g_vret hO rfl ⟨Nat.le_of_ble_eq_true rfl, Nat.le_of_ble_eq_true rfl⟩ rfl rfl d_X12_storeAll_83.1
  · skip
    refine g_aload_n hO d_X12_storeAll_84 (by rfl) 0 rfl ?_
    refine g_aload_n hO d_X12_storeAll_85 (by rfl) 0 rfl ?_
    refine h_getR hO cl_X12 10 rfl wf_X12_38 d_X12_storeAll_86 (fun v13 => ?_)
    refine g_bipush hO 91 d_X12_storeAll_89 (by decide) ?_
    refine g_iload_n hO d_X12_storeAll_91 (by rfl) 2 rfl ?_
    refine k_virtVs hO cl_X12 mm_X12_store lkV_X12_271 ⟨⟨Nat.le_of_ble_eq_true rfl, Nat.le_of_ble_eq_true rfl⟩, Nat.le_of_ble_eq_true rfl, Nat.le_of_ble_eq_true rfl⟩ (kn' := (0, 0)) rfl (As := [vA v13, vI 91, vI x2]) rfl (Nat.le_of_ble_eq_true rfl) (fun o' _ => t_X12_store Γ.2.1 E o' v13 91 x2 S) d_X12_storeAll_92 rfl (fun S15 => ?_)
    exact g_vret hO rfl ⟨Nat.le_of_ble_eq_true rfl, Nat.le_of_ble_eq_true rfl⟩ rfl rfl d_X12_storeAll_95.1
  · skip
    refine g_aload_n hO d_X12_storeAll_96 (by rfl) 0 rfl ?_
    refine g_aload_n hO d_X12_storeAll_97 (by rfl) 0 rfl ?_
    refine h_getR hO cl_X12 11 rfl wf_X12_41 d_X12_storeAll_98 (fun v16 => ?_)
    refine g_bipush hO 21 d_X12_storeAll_101 (by decide) ?_
    refine g_iload_n hO d_X12_storeAll_103 (by rfl) 2 rfl ?_
    refine k_virtVs hO cl_X12 mm_X12_store lkV_X12_271 ⟨⟨Nat.le_of_ble_eq_true rfl, Nat.le_of_ble_eq_true rfl⟩, Nat.le_of_ble_eq_true rfl, Nat.le_of_ble_eq_true rfl⟩ (kn' := (0, 0)) rfl (As := [vA v16, vI 21, vI x2]) rfl (Nat.le_of_ble_eq_true rfl) (fun o' _ => t_X12_store Γ.2.1 E o' v16 21 x2 S) d_X12_storeAll_104 rfl (fun S18 => ?_)
    exact g_vret hO rfl ⟨Nat.le_of_ble_eq_true rfl, Nat.le_of_ble_eq_true rfl⟩ rfl rfl d_X12_storeAll_107.1
theorem t_X12_storeAll (l : Launch) (E : GE) (o : Nat) (x1 : Int32) (x2 : Int32) (S : GS) : ∀ a, f_X12_storeAll o x1 x2 S = some a → Ct l E yX12_storeAll cX12_storeAll 3 none rm_X12_storeAll [vA (some o), vI x1, vI x2] S none a :=
  Ct_of (val := fun _ => none) (nxt := fun b => b) (by decide) (Nat.le_of_ble_eq_true rfl) (fun Γ hl hO => w_X12_storeAll hO o x1 x2 S)
theorem d_X12_text_0 : gD cX12_text 0 (.aload_n 0) 1 1 := ⟨by decide +kernel, rfl⟩
theorem d_X12_text_1 : gD cX12_text 1 (.iconst 0) 1 2 := ⟨by decide +kernel, rfl⟩
theorem d_X12_text_2 : gD cX12_text 2 (.putfield 100) 3 5 := ⟨by decide +kernel, rfl⟩
theorem d_X12_text_5 : gD cX12_text 5 (.aload_n 0) 1 6 := ⟨by decide +kernel, rfl⟩
theorem d_X12_text_6 : gD cX12_text 6 (.aload_n 0) 1 7 := ⟨by decide +kernel, rfl⟩
theorem d_X12_text_7 : gD cX12_text 7 (.getfield 13) 3 10 := ⟨by decide +kernel, rfl⟩
theorem d_X12_text_10 : gD cX12_text 10 (.iconst 0) 1 11 := ⟨by decide +kernel, rfl⟩
theorem d_X12_text_11 : gD cX12_text 11 (.iaload) 1 12 := ⟨by decide +kernel, rfl⟩
theorem d_X12_text_12 : gD cX12_text 12 (.putfield 123) 3 15 := ⟨by decide +kernel, rfl⟩
theorem d_X12_text_15 : gD cX12_text 15 (.aload_n 0) 1 16 := ⟨by decide +kernel, rfl⟩
theorem d_X12_text_16 : gD cX12_text 16 (.getfield 13) 3 19 := ⟨by decide +kernel, rfl⟩
theorem d_X12_text_19 : gD cX12_text 19 (.iconst 0) 1 20 := ⟨by decide +kernel, rfl⟩
theorem d_X12_text_20 : gD cX12_text 20 (.iconst 0) 1 21 := ⟨by decide +kernel, rfl⟩
theorem d_X12_text_21 : gD cX12_text 21 (.iastore) 1 22 := ⟨by decide +kernel, rfl⟩
theorem d_X12_text_22 : gD cX12_text 22 (.aload_n 0) 1 23 := ⟨by decide +kernel, rfl⟩
theorem d_X12_text_23 : gD cX12_text 23 (.getfield 17) 3 26 := ⟨by decide +kernel, rfl⟩
theorem d_X12_text_26 : gD cX12_text 26 (.iconst 0) 1 27 := ⟨by decide +kernel, rfl⟩
theorem d_X12_text_27 : gD cX12_text 27 (.iconst 0) 1 28 := ⟨by decide +kernel, rfl⟩
theorem d_X12_text_28 : gD cX12_text 28 (.iastore) 1 29 := ⟨by decide +kernel, rfl⟩
theorem d_X12_text_29 : gD cX12_text 29 (.aload_n 0) 1 30 := ⟨by decide +kernel, rfl⟩
theorem d_X12_text_30 : gD cX12_text 30 (.getfield 20) 3 33 := ⟨by decide +kernel, rfl⟩
theorem d_X12_text_33 : gD cX12_text 33 (.iconst 0) 1 34 := ⟨by decide +kernel, rfl⟩
theorem d_X12_text_34 : gD cX12_text 34 (.iconst (-1)) 1 35 := ⟨by decide +kernel, rfl⟩
theorem d_X12_text_35 : gD cX12_text 35 (.iastore) 1 36 := ⟨by decide +kernel, rfl⟩
theorem d_X12_text_36 : gD cX12_text 36 (.iload_n 1) 1 37 := ⟨by decide +kernel, rfl⟩
theorem d_X12_text_37 : gD cX12_text 37 (.iconst 0) 1 38 := ⟨by decide +kernel, rfl⟩
theorem d_X12_text_38 : gD cX12_text 38 (.iconst 5) 1 39 := ⟨by decide +kernel, rfl⟩
theorem d_X12_text_39 : gD cX12_text 39 (.invokestatic 112) 3 42 := ⟨by decide +kernel, rfl⟩
theorem d_X12_text_42 : gD cX12_text 42 (.ifCond .eq 30) 3 45 ∧ ((42 : Nat) : Int) + 30 = ((72 : Nat) : Int) := ⟨⟨by decide +kernel, rfl⟩, by decide⟩
theorem d_X12_text_45 : gD cX12_text 45 (.iload_n 2) 1 46 := ⟨by decide +kernel, rfl⟩
theorem d_X12_text_46 : gD cX12_text 46 (.iconst (-1)) 1 47 := ⟨by decide +kernel, rfl⟩
theorem d_X12_text_47 : gD cX12_text 47 (.if_icmp .ne 16) 3 50 ∧ ((47 : Nat) : Int) + 16 = ((63 : Nat) : Int) := ⟨⟨by decide +kernel, rfl⟩, by decide⟩
theorem d_X12_text_50 : gD cX12_text 50 (.aload_n 0) 1 51 := ⟨by decide +kernel, rfl⟩
theorem d_X12_text_51 : gD cX12_text 51 (.getfield 23) 3 54 := ⟨by decide +kernel, rfl⟩
theorem d_X12_text_54 : gD cX12_text 54 (.iload_n 1) 1 55 := ⟨by decide +kernel, rfl⟩
theorem d_X12_text_55 : gD cX12_text 55 (.iaload) 1 56 := ⟨by decide +kernel, rfl⟩
theorem d_X12_text_56 : gD cX12_text 56 (.iconst 2) 1 57 := ⟨by decide +kernel, rfl⟩
theorem d_X12_text_57 : gD cX12_text 57 (.if_icmp .ne 18) 3 60 ∧ ((57 : Nat) : Int) + 18 = ((75 : Nat) : Int) := ⟨⟨by decide +kernel, rfl⟩, by decide⟩
theorem d_X12_text_60 : decode cX12_text 60 = .ok (.goto 12, 3) ∧ ((60 : Nat) : Int) + 12 = ((72 : Nat) : Int) := ⟨by decide +kernel, by decide⟩
theorem d_X12_text_63 : gD cX12_text 63 (.aload_n 0) 1 64 := ⟨by decide +kernel, rfl⟩
theorem d_X12_text_64 : gD cX12_text 64 (.iload_n 1) 1 65 := ⟨by decide +kernel, rfl⟩
theorem d_X12_text_65 : gD cX12_text 65 (.iload_n 2) 1 66 := ⟨by decide +kernel, rfl⟩
theorem d_X12_text_66 : gD cX12_text 66 (.invokevirtual 275) 3 69 := ⟨by decide +kernel, rfl⟩
theorem d_X12_text_69 : gD cX12_text 69 (.ifCond .ne 6) 3 72 ∧ ((69 : Nat) : Int) + 6 = ((75 : Nat) : Int) := ⟨⟨by decide +kernel, rfl⟩, by decide⟩
theorem d_X12_text_72 : gD cX12_text 72 (.bipush (-2)) 2 74 := ⟨by decide +kernel, rfl⟩
theorem d_X12_text_74 : gD cX12_text 74 (.ireturn) 1 75 := ⟨by decide +kernel, rfl⟩
theorem d_X12_text_75 : gD cX12_text 75 (.aload_n 0) 1 76 := ⟨by decide +kernel, rfl⟩
theorem d_X12_text_76 : gD cX12_text 76 (.iload_n 1) 1 77 := ⟨by decide +kernel, rfl⟩
theorem d_X12_text_77 : gD cX12_text 77 (.invokevirtual 278) 3 80 := ⟨by decide +kernel, rfl⟩
theorem d_X12_text_80 : gD cX12_text 80 (.ifCond .ne 5) 3 83 ∧ ((80 : Nat) : Int) + 5 = ((85 : Nat) : Int) := ⟨⟨by decide +kernel, rfl⟩, by decide⟩
theorem d_X12_text_83 : gD cX12_text 83 (.iconst (-1)) 1 84 := ⟨by decide +kernel, rfl⟩
theorem d_X12_text_84 : gD cX12_text 84 (.ireturn) 1 85 := ⟨by decide +kernel, rfl⟩
theorem d_X12_text_85 : gD cX12_text 85 (.iload_n 2) 1 86 := ⟨by decide +kernel, rfl⟩
theorem d_X12_text_86 : gD cX12_text 86 (.iconst (-1)) 1 87 := ⟨by decide +kernel, rfl⟩
theorem d_X12_text_87 : gD cX12_text 87 (.if_icmp .ne 12) 3 90 ∧ ((87 : Nat) : Int) + 12 = ((99 : Nat) : Int) := ⟨⟨by decide +kernel, rfl⟩, by decide⟩
theorem d_X12_text_90 : gD cX12_text 90 (.aload_n 0) 1 91 := ⟨by decide +kernel, rfl⟩
theorem d_X12_text_91 : gD cX12_text 91 (.getfield 23) 3 94 := ⟨by decide +kernel, rfl⟩
theorem d_X12_text_94 : gD cX12_text 94 (.iload_n 1) 1 95 := ⟨by decide +kernel, rfl⟩
theorem d_X12_text_95 : gD cX12_text 95 (.iaload) 1 96 := ⟨by decide +kernel, rfl⟩
theorem d_X12_text_96 : decode cX12_text 96 = .ok (.goto 4, 3) ∧ ((96 : Nat) : Int) + 4 = ((100 : Nat) : Int) := ⟨by decide +kernel, by decide⟩
theorem d_X12_text_99 : gD cX12_text 99 (.iload_n 2) 1 100 := ⟨by decide +kernel, rfl⟩
theorem d_X12_text_100 : gD cX12_text 100 (.istore_n 3) 1 101 := ⟨by decide +kernel, rfl⟩
theorem d_X12_text_101 : gD cX12_text 101 (.aload_n 0) 1 102 := ⟨by decide +kernel, rfl⟩
theorem d_X12_text_102 : gD cX12_text 102 (.getfield 23) 3 105 := ⟨by decide +kernel, rfl⟩
theorem d_X12_text_105 : gD cX12_text 105 (.iload_n 1) 1 106 := ⟨by decide +kernel, rfl⟩
theorem d_X12_text_106 : gD cX12_text 106 (.dup2) 1 107 := ⟨by decide +kernel, rfl⟩
theorem d_X12_text_107 : gD cX12_text 107 (.iaload) 1 108 := ⟨by decide +kernel, rfl⟩
theorem d_X12_text_108 : gD cX12_text 108 (.iload_n 2) 1 109 := ⟨by decide +kernel, rfl⟩
theorem d_X12_text_109 : gD cX12_text 109 (.iconst (-1)) 1 110 := ⟨by decide +kernel, rfl⟩
theorem d_X12_text_110 : gD cX12_text 110 (.if_icmp .ne 7) 3 113 ∧ ((110 : Nat) : Int) + 7 = ((117 : Nat) : Int) := ⟨⟨by decide +kernel, rfl⟩, by decide⟩
theorem d_X12_text_113 : gD cX12_text 113 (.iconst 1) 1 114 := ⟨by decide +kernel, rfl⟩
theorem d_X12_text_114 : decode cX12_text 114 = .ok (.goto 4, 3) ∧ ((114 : Nat) : Int) + 4 = ((118 : Nat) : Int) := ⟨by decide +kernel, by decide⟩
theorem d_X12_text_117 : gD cX12_text 117 (.iconst 0) 1 118 := ⟨by decide +kernel, rfl⟩
theorem d_X12_text_118 : gD cX12_text 118 (.iadd) 1 119 := ⟨by decide +kernel, rfl⟩
theorem d_X12_text_119 : gD cX12_text 119 (.iastore) 1 120 := ⟨by decide +kernel, rfl⟩
theorem d_X12_text_120 : gD cX12_text 120 (.aload_n 0) 1 121 := ⟨by decide +kernel, rfl⟩
theorem d_X12_text_121 : gD cX12_text 121 (.iload_n 1) 1 122 := ⟨by decide +kernel, rfl⟩
theorem d_X12_text_122 : gD cX12_text 122 (.iload_n 3) 1 123 := ⟨by decide +kernel, rfl⟩
theorem d_X12_text_123 : gD cX12_text 123 (.invokevirtual 281) 3 126 := ⟨by decide +kernel, rfl⟩
theorem d_X12_text_126 : gD cX12_text 126 (.iload_n 3) 1 127 := ⟨by decide +kernel, rfl⟩
theorem d_X12_text_127 : gD cX12_text 127 (.ireturn) 1 128 := ⟨by decide +kernel, rfl⟩
abbrev rm_X12_text : Room := { frames := 9, cells := 0, slots := 0, locals := 206 }
set_option maxRecDepth 20000 in
theorem w_X12_text_118 {Γ : GC} {E : GE} (hO : gOk Γ E cX12_text RX12 4 rm_X12_text (some .int) "text") (o : Nat) (x1 : Int32) (x3 : Int32) (y0 : Option Nat) (y1 : Int32) (y2 : Int32) (y3 : Int32) (S : GS) : Go Γ E (gBsI Γ E) 4 (0, 0) 118 S [(0, vA (some o)), (1, vI x1), (3, vI x3)] [vI y3, vI y2, vI y1, vA y0] (f_X12_text_118 o x1 x3 y0 y1 y2 y3 S) := by
  unfold f_X12_text_118
  refine g_iadd hO d_X12_text_118 ?_
  refine h_iast hO d_X12_text_119 (fun S1 => ?_)
  refine g_aload_n hO d_X12_text_120 (by rfl) 0 rfl ?_
  refine g_iload_n hO d_X12_text_121 (by rfl) 1 rfl ?_
  refine g_iload_n hO d_X12_text_122 (by rfl) 2 rfl ?_
  refine k_virtVs hO cl_X12 mm_X12_storeAll lkV_X12_281 ⟨⟨Nat.le_of_ble_eq_true rfl, Nat.le_of_ble_eq_true rfl⟩, Nat.le_of_ble_eq_true rfl, Nat.le_of_ble_eq_true rfl⟩ (kn' := (0, 0)) rfl (As := [vI x1, vI x3]) rfl (Nat.le_of_ble_eq_true rfl) (fun o' _ => t_X12_storeAll Γ.2.1 E o' x1 x3 S1) d_X12_text_123 rfl (fun S3 => ?_)
  refine g_iload_n hO d_X12_text_126 (by rfl) 2 rfl ?_
  exact g_ret hO rfl rfl ⟨Nat.le_of_ble_eq_true rfl, Nat.le_of_ble_eq_true rfl⟩ rfl rfl d_X12_text_127.1
set_option maxRecDepth 20000 in
theorem w_X12_text_100 {Γ : GC} {E : GE} (hO : gOk Γ E cX12_text RX12 4 rm_X12_text (some .int) "text") (o : Nat) (x1 : Int32) (x2 : Int32) (y0 : Int32) (S : GS) : Go Γ E (gBsI Γ E) 4 (0, 0) 100 S [(0, vA (some o)), (1, vI x1), (2, vI x2)] [vI y0] (f_X12_text_100 o x1 x2 y0 S) := by
  unfold f_X12_text_100
  refine g_istore_n (lv' := [(3, vI y0), (0, vA (some o)), (1, vI x1), (2, vI x2)]) hO d_X12_text_100 (by rfl) (by decide) rfl ?_
  refine g_aload_n hO d_X12_text_101 (by rfl) 1 rfl ?_
  refine h_getR hO cl_X12 5 rfl wf_X12_23 d_X12_text_102 (fun v1 => ?_)
  refine g_iload_n hO d_X12_text_105 (by rfl) 2 rfl ?_
  refine g_dup2 hO d_X12_text_106 rfl rfl ?_
  refine h_iald hO d_X12_text_107 (fun v2 => ?_)
  refine g_iload_n hO d_X12_text_108 (by rfl) 3 rfl ?_
  refine g_iconst hO (-1) d_X12_text_109 (by decide) ?_
  refine g_ic_ne (tgt := 117) hO d_X12_text_110.1 d_X12_text_110.2 (fun _ => ?_) (fun _ => ?_)
  · skip
    refine g_iconst hO 1 d_X12_text_113 (by decide) ?_
    refine g_goto (tgt := 118) hO d_X12_text_114.1 d_X12_text_114.2 ?_
    exact g_sub [1, 2, 0] rfl (w_X12_text_118 hO o _ _ _ _ _ _ _)
  · skip
    refine g_iconst hO 0 d_X12_text_117 (by decide) ?_
    exact g_sub [1, 2, 0] rfl (w_X12_text_118 hO o _ _ _ _ _ _ _)
set_option maxRecDepth 20000 in
theorem w_X12_text_75 {Γ : GC} {E : GE} (hO : gOk Γ E cX12_text RX12 4 rm_X12_text (some .int) "text") (o : Nat) (x1 : Int32) (x2 : Int32) (S : GS) : Go Γ E (gBsI Γ E) 4 (0, 0) 75 S [(0, vA (some o)), (1, vI x1), (2, vI x2)] [] (f_X12_text_75 o x1 x2 S) := by
  unfold f_X12_text_75
  refine g_aload_n hO d_X12_text_75 (by rfl) 0 rfl ?_
  refine g_iload_n hO d_X12_text_76 (by rfl) 1 rfl ?_
  refine k_virtIs hO cl_X12 mm_X12_readText lkV_X12_278 ⟨⟨Nat.le_of_ble_eq_true rfl, Nat.le_of_ble_eq_true rfl⟩, Nat.le_of_ble_eq_true rfl, Nat.le_of_ble_eq_true rfl⟩ (kn' := (0, 0)) rfl (As := [vI x1]) rfl (Nat.le_of_ble_eq_true rfl) (fun o' _ => t_X12_readText Γ.2.1 E o' x1 S) d_X12_text_77 rfl (fun v1 S2 => ?_)
  refine g_if_ne (tgt := 85) hO d_X12_text_80.1 d_X12_text_80.2 (fun _ => ?_) (fun _ => ?_)
  · skip
    refine g_iconst hO (-1) d_X12_text_83 (by decide) ?_
    exact g_ret hO rfl rfl ⟨Nat.le_of_ble_eq_true rfl, Nat.le_of_ble_eq_true rfl⟩ rfl rfl d_X12_text_84.1
  · skip
    refine g_iload_n hO d_X12_text_85 (by rfl) 2 rfl ?_
    refine g_iconst hO (-1) d_X12_text_86 (by decide) ?_
    refine g_ic_ne (tgt := 99) hO d_X12_text_87.1 d_X12_text_87.2 (fun _ => ?_) (fun _ => ?_)
    · skip
      refine g_aload_n hO d_X12_text_90 (by rfl) 0 rfl ?_
      refine h_getR hO cl_X12 5 rfl wf_X12_23 d_X12_text_91 (fun v3 => ?_)
      refine g_iload_n hO d_X12_text_94 (by rfl) 1 rfl ?_
      refine h_iald hO d_X12_text_95 (fun v4 => ?_)
      refine g_goto (tgt := 100) hO d_X12_text_96.1 d_X12_text_96.2 ?_
      exact g_sub [0, 1, 2] rfl (w_X12_text_100 hO o _ _ _ _)
    · skip
      refine g_iload_n hO d_X12_text_99 (by rfl) 2 rfl ?_
      exact g_sub [0, 1, 2] rfl (w_X12_text_100 hO o _ _ _ _)
set_option maxRecDepth 20000 in
theorem w_X12_text {Γ : GC} {E : GE} (hO : gOk Γ E cX12_text RX12 4 rm_X12_text (some .int) "text") (o : Nat) (x1 : Int32) (x2 : Int32) (S : GS) : Go Γ E (gBsI Γ E) 4 (0, 0) 0 S [(0, vA (some o)), (1, vI x1), (2, vI x2)] [] (f_X12_text o x1 x2 S) := by
  unfold f_X12_text
  refine g_aload_n hO d_X12_text_0 (by rfl) 0 rfl ?_
  refine g_iconst hO 0 d_X12_text_1 (by decide) ?_
  refine h_putI hO cl_X12 0 rfl rfl wf_X12_100 (Or.inl rfl) d_X12_text_2 (fun S1 => ?_)
  refine g_aload_n hO d_X12_text_5 (by rfl) 0 rfl ?_
  refine g_aload_n hO d_X12_text_6 (by rfl) 0 rfl ?_
  refine h_getR hO cl_X12 2 rfl wf_X12_13 d_X12_text_7 (fun v2 => ?_)
  refine g_iconst hO 0 d_X12_text_10 (by decide) ?_
  refine h_iald hO d_X12_text_11 (fun v3 => ?_)
  refine h_putI hO cl_X12 13 rfl rfl wf_X12_123 (Or.inl rfl) d_X12_text_12 (fun S4 => ?_)
  refine g_aload_n hO d_X12_text_15 (by rfl) 0 rfl ?_
  refine h_getR hO cl_X12 2 rfl wf_X12_13 d_X12_text_16 (fun v5 => ?_)
  refine g_iconst hO 0 d_X12_text_19 (by decide) ?_
  refine g_iconst hO 0 d_X12_text_20 (by decide) ?_
  refine h_iast hO d_X12_text_21 (fun S6 => ?_)
  refine g_aload_n hO d_X12_text_22 (by rfl) 0 rfl ?_
  refine h_getR hO cl_X12 3 rfl wf_X12_17 d_X12_text_23 (fun v7 => ?_)
  refine g_iconst hO 0 d_X12_text_26 (by decide) ?_
  refine g_iconst hO 0 d_X12_text_27 (by decide) ?_
  refine h_iast hO d_X12_text_28 (fun S8 => ?_)
  refine g_aload_n hO d_X12_text_29 (by rfl) 0 rfl ?_
  refine h_getR hO cl_X12 4 rfl wf_X12_20 d_X12_text_30 (fun v9 => ?_)
  refine g_iconst hO 0 d_X12_text_33 (by decide) ?_
  refine g_iconst hO (-1) d_X12_text_34 (by decide) ?_
  refine h_iast hO d_X12_text_35 (fun S10 => ?_)
  refine g_iload_n hO d_X12_text_36 (by rfl) 1 rfl ?_
  refine g_iconst hO 0 d_X12_text_37 (by decide) ?_
  refine g_iconst hO 5 d_X12_text_38 (by decide) ?_
  refine k_statIp hO mm_X12_in lkS_X12_112 ⟨⟨Nat.le_of_ble_eq_true rfl, Nat.le_of_ble_eq_true rfl⟩, Nat.le_of_ble_eq_true rfl, Nat.le_of_ble_eq_true rfl⟩ (kn' := (0, 0)) rfl (As := [vI x1, vI 0, vI 5]) rfl (Nat.le_of_ble_eq_true rfl) (t_X12_in Γ.2.1 E x1 0 5 S10) d_X12_text_39 rfl (fun v11 => ?_)
  refine g_if_eq (tgt := 72) hO d_X12_text_42.1 d_X12_text_42.2 (fun _ => ?_) (fun _ => ?_)
  · skip
    refine g_bipush hO (-2) d_X12_text_72 (by decide) ?_
    exact g_ret hO rfl rfl ⟨Nat.le_of_ble_eq_true rfl, Nat.le_of_ble_eq_true rfl⟩ rfl rfl d_X12_text_74.1
  · skip
    refine g_iload_n hO d_X12_text_45 (by rfl) 2 rfl ?_
    refine g_iconst hO (-1) d_X12_text_46 (by decide) ?_
    refine g_ic_ne (tgt := 63) hO d_X12_text_47.1 d_X12_text_47.2 (fun _ => ?_) (fun _ => ?_)
    · skip
      refine g_aload_n hO d_X12_text_50 (by rfl) 0 rfl ?_
      refine h_getR hO cl_X12 5 rfl wf_X12_23 d_X12_text_51 (fun v13 => ?_)
      refine g_iload_n hO d_X12_text_54 (by rfl) 1 rfl ?_
      refine h_iald hO d_X12_text_55 (fun v14 => ?_)
      refine g_iconst hO 2 d_X12_text_56 (by decide) ?_
      refine g_ic_ne (tgt := 75) hO d_X12_text_57.1 d_X12_text_57.2 (fun _ => ?_) (fun _ => ?_)
      · skip
        refine g_goto (tgt := 72) hO d_X12_text_60.1 d_X12_text_60.2 ?_
        refine g_bipush hO (-2) d_X12_text_72 (by decide) ?_
        exact g_ret hO rfl rfl ⟨Nat.le_of_ble_eq_true rfl, Nat.le_of_ble_eq_true rfl⟩ rfl rfl d_X12_text_74.1
      · skip
        exact g_sub [0, 1, 2] rfl (w_X12_text_75 hO o _ _ _)
    · skip
      refine g_aload_n hO d_X12_text_63 (by rfl) 0 rfl ?_
      refine g_iload_n hO d_X12_text_64 (by rfl) 1 rfl ?_
      refine g_iload_n hO d_X12_text_65 (by rfl) 2 rfl ?_
      refine k_virtIp hO cl_X12 mm_X12_is lkV_X12_275 ⟨⟨Nat.le_of_ble_eq_true rfl, Nat.le_of_ble_eq_true rfl⟩, Nat.le_of_ble_eq_true rfl, Nat.le_of_ble_eq_true rfl⟩ (kn' := (0, 0)) rfl (As := [vI x1, vI x2]) rfl (Nat.le_of_ble_eq_true rfl) (fun o' _ => t_X12_is Γ.2.1 E o' x1 x2 S10) d_X12_text_66 rfl (fun v15 => ?_)
      refine g_if_ne (tgt := 75) hO d_X12_text_69.1 d_X12_text_69.2 (fun _ => ?_) (fun _ => ?_)
      · skip
        refine g_bipush hO (-2) d_X12_text_72 (by decide) ?_
        exact g_ret hO rfl rfl ⟨Nat.le_of_ble_eq_true rfl, Nat.le_of_ble_eq_true rfl⟩ rfl rfl d_X12_text_74.1
      · skip
        exact g_sub [0, 1, 2] rfl (w_X12_text_75 hO o _ _ _)
theorem t_X12_text (l : Launch) (E : GE) (o : Nat) (x1 : Int32) (x2 : Int32) (S : GS) : ∀ a, f_X12_text o x1 x2 S = some a → Ct l E yX12_text cX12_text 4 (some .int) rm_X12_text [vA (some o), vI x1, vI x2] S (some (vI a.1)) a.2 :=
  Ct_of (val := fun (b : Int32 × GS) => some (vI b.1)) (nxt := fun (b : Int32 × GS) => b.2) (by decide) (Nat.le_of_ble_eq_true rfl) (fun Γ hl hO => w_X12_text hO o x1 x2 S)
theorem d_X12_fault_0 : gD cX12_fault 0 (.aload_n 0) 1 1 := ⟨by decide +kernel, rfl⟩
theorem d_X12_fault_1 : gD cX12_fault 1 (.iconst 0) 1 2 := ⟨by decide +kernel, rfl⟩
theorem d_X12_fault_2 : gD cX12_fault 2 (.putfield 100) 3 5 := ⟨by decide +kernel, rfl⟩
theorem d_X12_fault_5 : gD cX12_fault 5 (.iload_n 1) 1 6 := ⟨by decide +kernel, rfl⟩
theorem d_X12_fault_6 : gD cX12_fault 6 (.ifCond .ne 12) 3 9 ∧ ((6 : Nat) : Int) + 12 = ((18 : Nat) : Int) := ⟨⟨by decide +kernel, rfl⟩, by decide⟩
theorem d_X12_fault_9 : gD cX12_fault 9 (.aload_n 0) 1 10 := ⟨by decide +kernel, rfl⟩
theorem d_X12_fault_10 : gD cX12_fault 10 (.getfield 17) 3 13 := ⟨by decide +kernel, rfl⟩
theorem d_X12_fault_13 : gD cX12_fault 13 (.iconst 0) 1 14 := ⟨by decide +kernel, rfl⟩
theorem d_X12_fault_14 : gD cX12_fault 14 (.iaload) 1 15 := ⟨by decide +kernel, rfl⟩
theorem d_X12_fault_15 : decode cX12_fault 15 = .ok (.goto 18, 3) ∧ ((15 : Nat) : Int) + 18 = ((33 : Nat) : Int) := ⟨by decide +kernel, by decide⟩
theorem d_X12_fault_18 : gD cX12_fault 18 (.iload_n 1) 1 19 := ⟨by decide +kernel, rfl⟩
theorem d_X12_fault_19 : gD cX12_fault 19 (.iconst 1) 1 20 := ⟨by decide +kernel, rfl⟩
theorem d_X12_fault_20 : gD cX12_fault 20 (.if_icmp .ne 12) 3 23 ∧ ((20 : Nat) : Int) + 12 = ((32 : Nat) : Int) := ⟨⟨by decide +kernel, rfl⟩, by decide⟩
theorem d_X12_fault_23 : gD cX12_fault 23 (.aload_n 0) 1 24 := ⟨by decide +kernel, rfl⟩
theorem d_X12_fault_24 : gD cX12_fault 24 (.getfield 20) 3 27 := ⟨by decide +kernel, rfl⟩
theorem d_X12_fault_27 : gD cX12_fault 27 (.iconst 0) 1 28 := ⟨by decide +kernel, rfl⟩
theorem d_X12_fault_28 : gD cX12_fault 28 (.iaload) 1 29 := ⟨by decide +kernel, rfl⟩
theorem d_X12_fault_29 : decode cX12_fault 29 = .ok (.goto 4, 3) ∧ ((29 : Nat) : Int) + 4 = ((33 : Nat) : Int) := ⟨by decide +kernel, by decide⟩
theorem d_X12_fault_32 : gD cX12_fault 32 (.iconst (-1)) 1 33 := ⟨by decide +kernel, rfl⟩
theorem d_X12_fault_33 : gD cX12_fault 33 (.ireturn) 1 34 := ⟨by decide +kernel, rfl⟩
abbrev rm_X12_fault : Room := { frames := 0, cells := 0, slots := 0, locals := 0 }
set_option maxRecDepth 20000 in
theorem w_X12_fault {Γ : GC} {E : GE} (hO : gOk Γ E cX12_fault RX12 2 rm_X12_fault (some .int) "fault") (o : Nat) (x1 : Int32) (S : GS) : Go Γ E (gBsI Γ E) 2 (0, 0) 0 S [(0, vA (some o)), (1, vI x1)] [] (f_X12_fault o x1 S) := by
  unfold f_X12_fault
  refine g_aload_n hO d_X12_fault_0 (by rfl) 0 rfl ?_
  refine g_iconst hO 0 d_X12_fault_1 (by decide) ?_
  refine h_putI hO cl_X12 0 rfl rfl wf_X12_100 (Or.inl rfl) d_X12_fault_2 (fun S1 => ?_)
  refine g_iload_n hO d_X12_fault_5 (by rfl) 1 rfl ?_
  refine g_if_ne (tgt := 18) hO d_X12_fault_6.1 d_X12_fault_6.2 (fun _ => ?_) (fun _ => ?_)
  · skip
    refine g_aload_n hO d_X12_fault_9 (by rfl) 0 rfl ?_
    refine h_getR hO cl_X12 3 rfl wf_X12_17 d_X12_fault_10 (fun v2 => ?_)
    refine g_iconst hO 0 d_X12_fault_13 (by decide) ?_
    refine h_iald hO d_X12_fault_14 (fun v3 => ?_)
    refine g_goto (tgt := 33) hO d_X12_fault_15.1 d_X12_fault_15.2 ?_
    exact g_ret hO rfl rfl ⟨Nat.le_of_ble_eq_true rfl, Nat.le_of_ble_eq_true rfl⟩ rfl rfl d_X12_fault_33.1
  · skip
    refine g_iload_n hO d_X12_fault_18 (by rfl) 1 rfl ?_
    refine g_iconst hO 1 d_X12_fault_19 (by decide) ?_
    refine g_ic_ne (tgt := 32) hO d_X12_fault_20.1 d_X12_fault_20.2 (fun _ => ?_) (fun _ => ?_)
    · skip
      refine g_aload_n hO d_X12_fault_23 (by rfl) 0 rfl ?_
      refine h_getR hO cl_X12 4 rfl wf_X12_20 d_X12_fault_24 (fun v4 => ?_)
      refine g_iconst hO 0 d_X12_fault_27 (by decide) ?_
      refine h_iald hO d_X12_fault_28 (fun v5 => ?_)
      refine g_goto (tgt := 33) hO d_X12_fault_29.1 d_X12_fault_29.2 ?_
      exact g_ret hO rfl rfl ⟨Nat.le_of_ble_eq_true rfl, Nat.le_of_ble_eq_true rfl⟩ rfl rfl d_X12_fault_33.1
    · skip
      refine g_iconst hO (-1) d_X12_fault_32 (by decide) ?_
      exact g_ret hO rfl rfl ⟨Nat.le_of_ble_eq_true rfl, Nat.le_of_ble_eq_true rfl⟩ rfl rfl d_X12_fault_33.1
theorem t_X12_fault (l : Launch) (E : GE) (o : Nat) (x1 : Int32) (S : GS) : ∀ a, f_X12_fault o x1 S = some a → Ct l E yX12_fault cX12_fault 2 (some .int) rm_X12_fault [vA (some o), vI x1] S (some (vI a.1)) a.2 :=
  Ct_of (val := fun (b : Int32 × GS) => some (vI b.1)) (nxt := fun (b : Int32 × GS) => b.2) (by decide) (Nat.le_of_ble_eq_true rfl) (fun Γ hl hO => w_X12_fault hO o x1 S)
theorem d_X12_ofCourt_0 : gD cX12_ofCourt 0 (.aload_n 0) 1 1 := ⟨by decide +kernel, rfl⟩
theorem d_X12_ofCourt_1 : gD cX12_ofCourt 1 (.getfield 26) 3 4 := ⟨by decide +kernel, rfl⟩
theorem d_X12_ofCourt_4 : gD cX12_ofCourt 4 (.bipush 69) 2 6 := ⟨by decide +kernel, rfl⟩
theorem d_X12_ofCourt_6 : gD cX12_ofCourt 6 (.aload_n 0) 1 7 := ⟨by decide +kernel, rfl⟩
theorem d_X12_ofCourt_7 : gD cX12_ofCourt 7 (.getfield 284) 3 10 := ⟨by decide +kernel, rfl⟩
theorem d_X12_ofCourt_10 : gD cX12_ofCourt 10 (.imul) 1 11 := ⟨by decide +kernel, rfl⟩
theorem d_X12_ofCourt_11 : gD cX12_ofCourt 11 (.iload_n 1) 1 12 := ⟨by decide +kernel, rfl⟩
theorem d_X12_ofCourt_12 : gD cX12_ofCourt 12 (.iadd) 1 13 := ⟨by decide +kernel, rfl⟩
theorem d_X12_ofCourt_13 : gD cX12_ofCourt 13 (.iaload) 1 14 := ⟨by decide +kernel, rfl⟩
theorem d_X12_ofCourt_14 : gD cX12_ofCourt 14 (.ireturn) 1 15 := ⟨by decide +kernel, rfl⟩
abbrev rm_X12_ofCourt : Room := { frames := 0, cells := 0, slots := 0, locals := 0 }
set_option maxRecDepth 20000 in
theorem w_X12_ofCourt {Γ : GC} {E : GE} (hO : gOk Γ E cX12_ofCourt RX12 2 rm_X12_ofCourt (some .int) "ofCourt") (o : Nat) (x1 : Int32) (S : GS) : Go Γ E (gBpI Γ E S) 2 (0, 0) 0 S [(0, vA (some o)), (1, vI x1)] [] (f_X12_ofCourt o x1 S) := by
  unfold f_X12_ofCourt
  refine g_aload_n hO d_X12_ofCourt_0 (by rfl) 0 rfl ?_
  refine h_getR hO cl_X12 6 rfl wf_X12_26 d_X12_ofCourt_1 (fun v1 => ?_)
  refine g_bipush hO 69 d_X12_ofCourt_4 (by decide) ?_
  refine g_aload_n hO d_X12_ofCourt_6 (by rfl) 0 rfl ?_
  refine h_getI hO cl_X12 25 rfl wf_X12_284 d_X12_ofCourt_7 (fun v2 => ?_)
  refine g_imul hO d_X12_ofCourt_10 ?_
  refine g_iload_n hO d_X12_ofCourt_11 (by rfl) 1 rfl ?_
  refine g_iadd hO d_X12_ofCourt_12 ?_
  refine h_iald hO d_X12_ofCourt_13 (fun v3 => ?_)
  exact g_ret hO rfl rfl ⟨Nat.le_of_ble_eq_true rfl, Nat.le_of_ble_eq_true rfl⟩ rfl rfl d_X12_ofCourt_14.1
theorem t_X12_ofCourt (l : Launch) (E : GE) (o : Nat) (x1 : Int32) (S : GS) : ∀ a, f_X12_ofCourt o x1 S = some a → Ct l E yX12_ofCourt cX12_ofCourt 2 (some .int) rm_X12_ofCourt [vA (some o), vI x1] S (some (vI a)) S :=
  Ct_of (val := fun b => some (vI b)) (nxt := fun _ => S) (by decide) (Nat.le_of_ble_eq_true rfl) (fun Γ hl hO => w_X12_ofCourt hO o x1 S)
theorem d_X12_ofLady_0 : gD cX12_ofLady 0 (.aload_n 0) 1 1 := ⟨by decide +kernel, rfl⟩
theorem d_X12_ofLady_1 : gD cX12_ofLady 1 (.bipush 29) 2 3 := ⟨by decide +kernel, rfl⟩
theorem d_X12_ofLady_3 : gD cX12_ofLady 3 (.iconst 5) 1 4 := ⟨by decide +kernel, rfl⟩
theorem d_X12_ofLady_4 : gD cX12_ofLady 4 (.iload_n 1) 1 5 := ⟨by decide +kernel, rfl⟩
theorem d_X12_ofLady_5 : gD cX12_ofLady 5 (.imul) 1 6 := ⟨by decide +kernel, rfl⟩
theorem d_X12_ofLady_6 : gD cX12_ofLady 6 (.iadd) 1 7 := ⟨by decide +kernel, rfl⟩
theorem d_X12_ofLady_7 : gD cX12_ofLady 7 (.iload_n 2) 1 8 := ⟨by decide +kernel, rfl⟩
theorem d_X12_ofLady_8 : gD cX12_ofLady 8 (.iadd) 1 9 := ⟨by decide +kernel, rfl⟩
theorem d_X12_ofLady_9 : gD cX12_ofLady 9 (.invokevirtual 287) 3 12 := ⟨by decide +kernel, rfl⟩
theorem d_X12_ofLady_12 : gD cX12_ofLady 12 (.ireturn) 1 13 := ⟨by decide +kernel, rfl⟩
abbrev rm_X12_ofLady : Room := { frames := 1, cells := 0, slots := 0, locals := 21 }
set_option maxRecDepth 20000 in
theorem w_X12_ofLady {Γ : GC} {E : GE} (hO : gOk Γ E cX12_ofLady RX12 3 rm_X12_ofLady (some .int) "ofLady") (o : Nat) (x1 : Int32) (x2 : Int32) (S : GS) : Go Γ E (gBpI Γ E S) 3 (0, 0) 0 S [(0, vA (some o)), (1, vI x1), (2, vI x2)] [] (f_X12_ofLady o x1 x2 S) := by
  unfold f_X12_ofLady
  refine g_aload_n hO d_X12_ofLady_0 (by rfl) 0 rfl ?_
  refine g_bipush hO 29 d_X12_ofLady_1 (by decide) ?_
  refine g_iconst hO 5 d_X12_ofLady_3 (by decide) ?_
  refine g_iload_n hO d_X12_ofLady_4 (by rfl) 1 rfl ?_
  refine g_imul hO d_X12_ofLady_5 ?_
  refine g_iadd hO d_X12_ofLady_6 ?_
  refine g_iload_n hO d_X12_ofLady_7 (by rfl) 2 rfl ?_
  refine g_iadd hO d_X12_ofLady_8 ?_
  refine k_virtIp hO cl_X12 mm_X12_ofCourt lkV_X12_287 ⟨⟨Nat.le_of_ble_eq_true rfl, Nat.le_of_ble_eq_true rfl⟩, Nat.le_of_ble_eq_true rfl, Nat.le_of_ble_eq_true rfl⟩ (kn' := (0, 0)) rfl (As := [vI ((29 + (5 * x1)) + x2)]) rfl (Nat.le_of_ble_eq_true rfl) (fun o' _ => t_X12_ofCourt Γ.2.1 E o' ((29 + (5 * x1)) + x2) S) d_X12_ofLady_9 rfl (fun v1 => ?_)
  exact g_ret hO rfl rfl ⟨Nat.le_of_ble_eq_true rfl, Nat.le_of_ble_eq_true rfl⟩ rfl rfl d_X12_ofLady_12.1
theorem t_X12_ofLady (l : Launch) (E : GE) (o : Nat) (x1 : Int32) (x2 : Int32) (S : GS) : ∀ a, f_X12_ofLady o x1 x2 S = some a → Ct l E yX12_ofLady cX12_ofLady 3 (some .int) rm_X12_ofLady [vA (some o), vI x1, vI x2] S (some (vI a)) S :=
  Ct_of (val := fun b => some (vI b)) (nxt := fun _ => S) (by decide) (Nat.le_of_ble_eq_true rfl) (fun Γ hl hO => w_X12_ofLady hO o x1 x2 S)
theorem d_X12_heightOf_0 : gD cX12_heightOf 0 (.aload_n 0) 1 1 := ⟨by decide +kernel, rfl⟩
theorem d_X12_heightOf_1 : gD cX12_heightOf 1 (.bipush 9) 2 3 := ⟨by decide +kernel, rfl⟩
theorem d_X12_heightOf_3 : gD cX12_heightOf 3 (.iconst 2) 1 4 := ⟨by decide +kernel, rfl⟩
theorem d_X12_heightOf_4 : gD cX12_heightOf 4 (.iload_n 1) 1 5 := ⟨by decide +kernel, rfl⟩
theorem d_X12_heightOf_5 : gD cX12_heightOf 5 (.imul) 1 6 := ⟨by decide +kernel, rfl⟩
theorem d_X12_heightOf_6 : gD cX12_heightOf 6 (.iadd) 1 7 := ⟨by decide +kernel, rfl⟩
theorem d_X12_heightOf_7 : gD cX12_heightOf 7 (.iconst 1) 1 8 := ⟨by decide +kernel, rfl⟩
theorem d_X12_heightOf_8 : gD cX12_heightOf 8 (.iadd) 1 9 := ⟨by decide +kernel, rfl⟩
theorem d_X12_heightOf_9 : gD cX12_heightOf 9 (.invokevirtual 287) 3 12 := ⟨by decide +kernel, rfl⟩
theorem d_X12_heightOf_12 : gD cX12_heightOf 12 (.ireturn) 1 13 := ⟨by decide +kernel, rfl⟩
abbrev rm_X12_heightOf : Room := { frames := 1, cells := 0, slots := 0, locals := 21 }
set_option maxRecDepth 20000 in
theorem w_X12_heightOf {Γ : GC} {E : GE} (hO : gOk Γ E cX12_heightOf RX12 2 rm_X12_heightOf (some .int) "heightOf") (o : Nat) (x1 : Int32) (S : GS) : Go Γ E (gBpI Γ E S) 2 (0, 0) 0 S [(0, vA (some o)), (1, vI x1)] [] (f_X12_heightOf o x1 S) := by
  unfold f_X12_heightOf
  refine g_aload_n hO d_X12_heightOf_0 (by rfl) 0 rfl ?_
  refine g_bipush hO 9 d_X12_heightOf_1 (by decide) ?_
  refine g_iconst hO 2 d_X12_heightOf_3 (by decide) ?_
  refine g_iload_n hO d_X12_heightOf_4 (by rfl) 1 rfl ?_
  refine g_imul hO d_X12_heightOf_5 ?_
  refine g_iadd hO d_X12_heightOf_6 ?_
  refine g_iconst hO 1 d_X12_heightOf_7 (by decide) ?_
  refine g_iadd hO d_X12_heightOf_8 ?_
  refine k_virtIp hO cl_X12 mm_X12_ofCourt lkV_X12_287 ⟨⟨Nat.le_of_ble_eq_true rfl, Nat.le_of_ble_eq_true rfl⟩, Nat.le_of_ble_eq_true rfl, Nat.le_of_ble_eq_true rfl⟩ (kn' := (0, 0)) rfl (As := [vI ((9 + (2 * x1)) + 1)]) rfl (Nat.le_of_ble_eq_true rfl) (fun o' _ => t_X12_ofCourt Γ.2.1 E o' ((9 + (2 * x1)) + 1) S) d_X12_heightOf_9 rfl (fun v1 => ?_)
  exact g_ret hO rfl rfl ⟨Nat.le_of_ble_eq_true rfl, Nat.le_of_ble_eq_true rfl⟩ rfl rfl d_X12_heightOf_12.1
theorem t_X12_heightOf (l : Launch) (E : GE) (o : Nat) (x1 : Int32) (S : GS) : ∀ a, f_X12_heightOf o x1 S = some a → Ct l E yX12_heightOf cX12_heightOf 2 (some .int) rm_X12_heightOf [vA (some o), vI x1] S (some (vI a)) S :=
  Ct_of (val := fun b => some (vI b)) (nxt := fun _ => S) (by decide) (Nat.le_of_ble_eq_true rfl) (fun Γ hl hO => w_X12_heightOf hO o x1 S)
theorem d_X12_hand_0 : gD cX12_hand 0 (.aload_n 0) 1 1 := ⟨by decide +kernel, rfl⟩
theorem d_X12_hand_1 : gD cX12_hand 1 (.iconst 0) 1 2 := ⟨by decide +kernel, rfl⟩
theorem d_X12_hand_2 : gD cX12_hand 2 (.iload_n 1) 1 3 := ⟨by decide +kernel, rfl⟩
theorem d_X12_hand_3 : gD cX12_hand 3 (.invokevirtual 275) 3 6 := ⟨by decide +kernel, rfl⟩
theorem d_X12_hand_6 : gD cX12_hand 6 (.ifCond .ne 5) 3 9 ∧ ((6 : Nat) : Int) + 5 = ((11 : Nat) : Int) := ⟨⟨by decide +kernel, rfl⟩, by decide⟩
theorem d_X12_hand_9 : gD cX12_hand 9 (.iconst 0) 1 10 := ⟨by decide +kernel, rfl⟩
theorem d_X12_hand_10 : gD cX12_hand 10 (.ireturn) 1 11 := ⟨by decide +kernel, rfl⟩
theorem d_X12_hand_11 : gD cX12_hand 11 (.aload_n 0) 1 12 := ⟨by decide +kernel, rfl⟩
theorem d_X12_hand_12 : gD cX12_hand 12 (.iload_n 1) 1 13 := ⟨by decide +kernel, rfl⟩
theorem d_X12_hand_13 : gD cX12_hand 13 (.putfield 284) 3 16 := ⟨by decide +kernel, rfl⟩
theorem d_X12_hand_16 : gD cX12_hand 16 (.aload_n 0) 1 17 := ⟨by decide +kernel, rfl⟩
theorem d_X12_hand_17 : gD cX12_hand 17 (.aload_n 0) 1 18 := ⟨by decide +kernel, rfl⟩
theorem d_X12_hand_18 : gD cX12_hand 18 (.iconst 0) 1 19 := ⟨by decide +kernel, rfl⟩
theorem d_X12_hand_19 : gD cX12_hand 19 (.invokevirtual 287) 3 22 := ⟨by decide +kernel, rfl⟩
theorem d_X12_hand_22 : gD cX12_hand 22 (.putfield 291) 3 25 := ⟨by decide +kernel, rfl⟩
theorem d_X12_hand_25 : gD cX12_hand 25 (.aload_n 0) 1 26 := ⟨by decide +kernel, rfl⟩
theorem d_X12_hand_26 : gD cX12_hand 26 (.aload_n 0) 1 27 := ⟨by decide +kernel, rfl⟩
theorem d_X12_hand_27 : gD cX12_hand 27 (.iconst 1) 1 28 := ⟨by decide +kernel, rfl⟩
theorem d_X12_hand_28 : gD cX12_hand 28 (.invokevirtual 287) 3 31 := ⟨by decide +kernel, rfl⟩
theorem d_X12_hand_31 : gD cX12_hand 31 (.putfield 294) 3 34 := ⟨by decide +kernel, rfl⟩
theorem d_X12_hand_34 : gD cX12_hand 34 (.iconst 1) 1 35 := ⟨by decide +kernel, rfl⟩
theorem d_X12_hand_35 : gD cX12_hand 35 (.ireturn) 1 36 := ⟨by decide +kernel, rfl⟩
abbrev rm_X12_hand : Room := { frames := 2, cells := 0, slots := 0, locals := 44 }
set_option maxRecDepth 20000 in
theorem w_X12_hand {Γ : GC} {E : GE} (hO : gOk Γ E cX12_hand RX12 2 rm_X12_hand (some .boolean) "hand") (o : Nat) (x1 : Int32) (S : GS) : Go Γ E (gBsI Γ E) 2 (0, 0) 0 S [(0, vA (some o)), (1, vI x1)] [] (f_X12_hand o x1 S) := by
  unfold f_X12_hand
  refine g_aload_n hO d_X12_hand_0 (by rfl) 0 rfl ?_
  refine g_iconst hO 0 d_X12_hand_1 (by decide) ?_
  refine g_iload_n hO d_X12_hand_2 (by rfl) 1 rfl ?_
  refine k_virtIp hO cl_X12 mm_X12_is lkV_X12_275 ⟨⟨Nat.le_of_ble_eq_true rfl, Nat.le_of_ble_eq_true rfl⟩, Nat.le_of_ble_eq_true rfl, Nat.le_of_ble_eq_true rfl⟩ (kn' := (0, 0)) rfl (As := [vI 0, vI x1]) rfl (Nat.le_of_ble_eq_true rfl) (fun o' _ => t_X12_is Γ.2.1 E o' 0 x1 S) d_X12_hand_3 rfl (fun v1 => ?_)
  refine g_if_ne (tgt := 11) hO d_X12_hand_6.1 d_X12_hand_6.2 (fun _ => ?_) (fun _ => ?_)
  · skip
    refine g_iconst hO 0 d_X12_hand_9 (by decide) ?_
    exact g_ret hO rfl rfl ⟨Nat.le_of_ble_eq_true rfl, Nat.le_of_ble_eq_true rfl⟩ rfl rfl d_X12_hand_10.1
  · skip
    refine g_aload_n hO d_X12_hand_11 (by rfl) 0 rfl ?_
    refine g_iload_n hO d_X12_hand_12 (by rfl) 1 rfl ?_
    refine h_putI hO cl_X12 25 rfl rfl wf_X12_284 (Or.inl rfl) d_X12_hand_13 (fun S3 => ?_)
    refine g_aload_n hO d_X12_hand_16 (by rfl) 0 rfl ?_
    refine g_aload_n hO d_X12_hand_17 (by rfl) 0 rfl ?_
    refine g_iconst hO 0 d_X12_hand_18 (by decide) ?_
    refine k_virtIp hO cl_X12 mm_X12_ofCourt lkV_X12_287 ⟨⟨Nat.le_of_ble_eq_true rfl, Nat.le_of_ble_eq_true rfl⟩, Nat.le_of_ble_eq_true rfl, Nat.le_of_ble_eq_true rfl⟩ (kn' := (0, 0)) rfl (As := [vI 0]) rfl (Nat.le_of_ble_eq_true rfl) (fun o' _ => t_X12_ofCourt Γ.2.1 E o' 0 S3) d_X12_hand_19 rfl (fun v4 => ?_)
    refine h_putI hO cl_X12 26 rfl rfl wf_X12_291 (Or.inl rfl) d_X12_hand_22 (fun S6 => ?_)
    refine g_aload_n hO d_X12_hand_25 (by rfl) 0 rfl ?_
    refine g_aload_n hO d_X12_hand_26 (by rfl) 0 rfl ?_
    refine g_iconst hO 1 d_X12_hand_27 (by decide) ?_
    refine k_virtIp hO cl_X12 mm_X12_ofCourt lkV_X12_287 ⟨⟨Nat.le_of_ble_eq_true rfl, Nat.le_of_ble_eq_true rfl⟩, Nat.le_of_ble_eq_true rfl, Nat.le_of_ble_eq_true rfl⟩ (kn' := (0, 0)) rfl (As := [vI 1]) rfl (Nat.le_of_ble_eq_true rfl) (fun o' _ => t_X12_ofCourt Γ.2.1 E o' 1 S6) d_X12_hand_28 rfl (fun v7 => ?_)
    refine h_putI hO cl_X12 27 rfl rfl wf_X12_294 (Or.inl rfl) d_X12_hand_31 (fun S9 => ?_)
    refine g_iconst hO 1 d_X12_hand_34 (by decide) ?_
    exact g_ret hO rfl rfl ⟨Nat.le_of_ble_eq_true rfl, Nat.le_of_ble_eq_true rfl⟩ rfl rfl d_X12_hand_35.1
theorem t_X12_hand (l : Launch) (E : GE) (o : Nat) (x1 : Int32) (S : GS) : ∀ a, f_X12_hand o x1 S = some a → Ct l E yX12_hand cX12_hand 2 (some .boolean) rm_X12_hand [vA (some o), vI x1] S (some (vI a.1)) a.2 :=
  Ct_of (val := fun (b : Int32 × GS) => some (vI b.1)) (nxt := fun (b : Int32 × GS) => b.2) (by decide) (Nat.le_of_ble_eq_true rfl) (fun Γ hl hO => w_X12_hand hO o x1 S)
theorem d_X12_isLady_0 : gD cX12_isLady 0 (.iload_n 1) 1 1 := ⟨by decide +kernel, rfl⟩
theorem d_X12_isLady_1 : gD cX12_isLady 1 (.iconst 0) 1 2 := ⟨by decide +kernel, rfl⟩
theorem d_X12_isLady_2 : gD cX12_isLady 2 (.aload_n 0) 1 3 := ⟨by decide +kernel, rfl⟩
theorem d_X12_isLady_3 : gD cX12_isLady 3 (.getfield 294) 3 6 := ⟨by decide +kernel, rfl⟩
theorem d_X12_isLady_6 : gD cX12_isLady 6 (.iconst 1) 1 7 := ⟨by decide +kernel, rfl⟩
theorem d_X12_isLady_7 : gD cX12_isLady 7 (.isub) 1 8 := ⟨by decide +kernel, rfl⟩
theorem d_X12_isLady_8 : gD cX12_isLady 8 (.invokestatic 112) 3 11 := ⟨by decide +kernel, rfl⟩
theorem d_X12_isLady_11 : gD cX12_isLady 11 (.ireturn) 1 12 := ⟨by decide +kernel, rfl⟩
abbrev rm_X12_isLady : Room := { frames := 1, cells := 0, slots := 0, locals := 22 }
set_option maxRecDepth 20000 in
theorem w_X12_isLady {Γ : GC} {E : GE} (hO : gOk Γ E cX12_isLady RX12 2 rm_X12_isLady (some .boolean) "isLady") (o : Nat) (x1 : Int32) (S : GS) : Go Γ E (gBpI Γ E S) 2 (0, 0) 0 S [(0, vA (some o)), (1, vI x1)] [] (f_X12_isLady o x1 S) := by
  unfold f_X12_isLady
  refine g_iload_n hO d_X12_isLady_0 (by rfl) 1 rfl ?_
  refine g_iconst hO 0 d_X12_isLady_1 (by decide) ?_
  refine g_aload_n hO d_X12_isLady_2 (by rfl) 0 rfl ?_
  refine h_getI hO cl_X12 27 rfl wf_X12_294 d_X12_isLady_3 (fun v1 => ?_)
  refine g_iconst hO 1 d_X12_isLady_6 (by decide) ?_
  refine g_isub hO d_X12_isLady_7 ?_
  refine k_statIp hO mm_X12_in lkS_X12_112 ⟨⟨Nat.le_of_ble_eq_true rfl, Nat.le_of_ble_eq_true rfl⟩, Nat.le_of_ble_eq_true rfl, Nat.le_of_ble_eq_true rfl⟩ (kn' := (0, 0)) rfl (As := [vI x1, vI 0, vI (v1 - 1)]) rfl (Nat.le_of_ble_eq_true rfl) (t_X12_in Γ.2.1 E x1 0 (v1 - 1) S) d_X12_isLady_8 rfl (fun v2 => ?_)
  exact g_zret hO rfl ⟨Nat.le_of_ble_eq_true rfl, Nat.le_of_ble_eq_true rfl⟩ rfl rfl d_X12_isLady_11.1
theorem t_X12_isLady (l : Launch) (E : GE) (o : Nat) (x1 : Int32) (S : GS) : ∀ a, f_X12_isLady o x1 S = some a → Ct l E yX12_isLady cX12_isLady 2 (some .boolean) rm_X12_isLady [vA (some o), vI x1] S (some (vI a)) S :=
  Ct_of (val := fun b => some (vI b)) (nxt := fun _ => S) (by decide) (Nat.le_of_ble_eq_true rfl) (fun Γ hl hO => w_X12_isLady hO o x1 S)
theorem d_X12_isRoom_0 : gD cX12_isRoom 0 (.iload_n 1) 1 1 := ⟨by decide +kernel, rfl⟩
theorem d_X12_isRoom_1 : gD cX12_isRoom 1 (.iconst 0) 1 2 := ⟨by decide +kernel, rfl⟩
theorem d_X12_isRoom_2 : gD cX12_isRoom 2 (.aload_n 0) 1 3 := ⟨by decide +kernel, rfl⟩
theorem d_X12_isRoom_3 : gD cX12_isRoom 3 (.getfield 291) 3 6 := ⟨by decide +kernel, rfl⟩
theorem d_X12_isRoom_6 : gD cX12_isRoom 6 (.iconst 1) 1 7 := ⟨by decide +kernel, rfl⟩
theorem d_X12_isRoom_7 : gD cX12_isRoom 7 (.isub) 1 8 := ⟨by decide +kernel, rfl⟩
theorem d_X12_isRoom_8 : gD cX12_isRoom 8 (.invokestatic 112) 3 11 := ⟨by decide +kernel, rfl⟩
theorem d_X12_isRoom_11 : gD cX12_isRoom 11 (.ireturn) 1 12 := ⟨by decide +kernel, rfl⟩
abbrev rm_X12_isRoom : Room := { frames := 1, cells := 0, slots := 0, locals := 22 }
set_option maxRecDepth 20000 in
theorem w_X12_isRoom {Γ : GC} {E : GE} (hO : gOk Γ E cX12_isRoom RX12 2 rm_X12_isRoom (some .boolean) "isRoom") (o : Nat) (x1 : Int32) (S : GS) : Go Γ E (gBpI Γ E S) 2 (0, 0) 0 S [(0, vA (some o)), (1, vI x1)] [] (f_X12_isRoom o x1 S) := by
  unfold f_X12_isRoom
  refine g_iload_n hO d_X12_isRoom_0 (by rfl) 1 rfl ?_
  refine g_iconst hO 0 d_X12_isRoom_1 (by decide) ?_
  refine g_aload_n hO d_X12_isRoom_2 (by rfl) 0 rfl ?_
  refine h_getI hO cl_X12 26 rfl wf_X12_291 d_X12_isRoom_3 (fun v1 => ?_)
  refine g_iconst hO 1 d_X12_isRoom_6 (by decide) ?_
  refine g_isub hO d_X12_isRoom_7 ?_
  refine k_statIp hO mm_X12_in lkS_X12_112 ⟨⟨Nat.le_of_ble_eq_true rfl, Nat.le_of_ble_eq_true rfl⟩, Nat.le_of_ble_eq_true rfl, Nat.le_of_ble_eq_true rfl⟩ (kn' := (0, 0)) rfl (As := [vI x1, vI 0, vI (v1 - 1)]) rfl (Nat.le_of_ble_eq_true rfl) (t_X12_in Γ.2.1 E x1 0 (v1 - 1) S) d_X12_isRoom_8 rfl (fun v2 => ?_)
  exact g_zret hO rfl ⟨Nat.le_of_ble_eq_true rfl, Nat.le_of_ble_eq_true rfl⟩ rfl rfl d_X12_isRoom_11.1
theorem t_X12_isRoom (l : Launch) (E : GE) (o : Nat) (x1 : Int32) (S : GS) : ∀ a, f_X12_isRoom o x1 S = some a → Ct l E yX12_isRoom cX12_isRoom 2 (some .boolean) rm_X12_isRoom [vA (some o), vI x1] S (some (vI a)) S :=
  Ct_of (val := fun b => some (vI b)) (nxt := fun _ => S) (by decide) (Nat.le_of_ble_eq_true rfl) (fun Γ hl hO => w_X12_isRoom hO o x1 S)
