/-! the law: links and codes. -/
def R_law : String := "ColdHouseLaw"
noncomputable def okL (idx k a b c : Nat) : Bool := okP (.methodLink R_law idx (yM k)) a && okP (.instanceMethod (yM k)) b && okP (.selects (yM k).cls (yM k) (yM k)) c
noncomputable def okI (idx k a b : Nat) : Bool := okP (.methodLink R_law idx (yM k)) a && okP (.instanceMethod (yM k)) b && decide ((yM k).name = "<init>")
set_option maxRecDepth 100000 in
theorem lk_9 : okI 9 40 47 48 = true := by decide +kernel
set_option maxRecDepth 100000 in
theorem lk_12 : okI 12 71 598 599 = true := by decide +kernel
set_option maxRecDepth 100000 in
theorem lk_13 : okL 13 41 287 288 289 = true := by decide +kernel
set_option maxRecDepth 100000 in
theorem lk_17 : okL 17 75 722 723 724 = true := by decide +kernel
set_option maxRecDepth 100000 in
theorem lk_18 : okL 18 42 310 311 312 = true := by decide +kernel
set_option maxRecDepth 100000 in
theorem lk_21 : okL 21 76 735 736 737 = true := by decide +kernel
set_option maxRecDepth 100000 in
theorem lk_22 : okL 22 43 319 320 321 = true := by decide +kernel
set_option maxRecDepth 100000 in
theorem lk_26 : okL 26 77 739 740 741 = true := by decide +kernel
set_option maxRecDepth 100000 in
theorem lk_27 : okL 27 44 368 369 370 = true := by decide +kernel
set_option maxRecDepth 100000 in
theorem lk_30 : okL 30 79 746 747 748 = true := by decide +kernel
set_option maxRecDepth 100000 in
theorem lk_33 : okL 33 45 377 378 379 = true := by decide +kernel
set_option maxRecDepth 100000 in
theorem lk_37 : okL 37 86 755 756 757 = true := by decide +kernel
set_option maxRecDepth 100000 in
theorem lk_38 : okL 38 46 420 421 422 = true := by decide +kernel
set_option maxRecDepth 100000 in
theorem lk_41 : okL 41 88 790 791 792 = true := by decide +kernel
set_option maxRecDepth 100000 in
theorem lk_42 : okL 42 47 431 432 433 = true := by decide +kernel
set_option maxRecDepth 100000 in
theorem lk_45 : okL 45 89 800 801 802 = true := by decide +kernel
set_option maxRecDepth 100000 in
theorem lk_46 : okL 46 48 440 441 442 = true := by decide +kernel
set_option maxRecDepth 100000 in
theorem lk_50 : okL 50 90 804 805 806 = true := by decide +kernel
set_option maxRecDepth 100000 in
theorem lk_51 : okL 51 49 444 445 446 = true := by decide +kernel
set_option maxRecDepth 100000 in
theorem lk_55 : okL 55 96 808 809 810 = true := by decide +kernel
set_option maxRecDepth 100000 in
theorem lk_56 : okL 56 50 520 521 522 = true := by decide +kernel
set_option maxRecDepth 100000 in
theorem lk_60 : okL 60 97 832 833 834 = true := by decide +kernel
set_option maxRecDepth 100000 in
theorem lk_61 : okL 61 51 524 525 526 = true := by decide +kernel
set_option maxRecDepth 100000 in
theorem lk_64 : okL 64 98 837 838 839 = true := by decide +kernel
set_option maxRecDepth 100000 in
theorem lk_65 : okL 65 52 534 535 536 = true := by decide +kernel
set_option maxRecDepth 100000 in
theorem lk_69 : okL 69 103 850 851 852 = true := by decide +kernel
set_option maxRecDepth 100000 in
theorem lk_70 : okL 70 53 538 539 540 = true := by decide +kernel
set_option maxRecDepth 100000 in
theorem lk_73 : okL 73 100 842 843 844 = true := by decide +kernel
set_option maxRecDepth 100000 in
theorem lk_74 : okL 74 54 543 544 545 = true := by decide +kernel
set_option maxRecDepth 100000 in
theorem lk_77 : okL 77 105 864 865 866 = true := by decide +kernel
set_option maxRecDepth 100000 in
theorem lk_78 : okL 78 55 562 563 564 = true := by decide +kernel
set_option maxRecDepth 100000 in
theorem lk_82 : okL 82 108 879 880 881 = true := by decide +kernel
set_option maxRecDepth 100000 in
theorem lk_83 : okL 83 56 571 572 573 = true := by decide +kernel
set_option maxRecDepth 100000 in
theorem lk_86 : okL 86 111 887 888 889 = true := by decide +kernel
set_option maxRecDepth 100000 in
theorem lk_87 : okL 87 57 575 576 577 = true := by decide +kernel
set_option maxRecDepth 100000 in
theorem lk_91 : okL 91 113 895 896 897 = true := by decide +kernel
set_option maxRecDepth 100000 in
theorem lk_92 : okL 92 58 584 585 586 = true := by decide +kernel
set_option maxRecDepth 100000 in
theorem lk_95 : okL 95 114 904 905 906 = true := by decide +kernel
set_option maxRecDepth 100000 in
theorem lk_96 : okL 96 59 592 593 594 = true := by decide +kernel
set_option maxRecDepth 100000 in
theorem lk_99 : okL 99 115 908 909 910 = true := by decide +kernel
set_option maxRecDepth 100000 in
theorem lk_long : okP (.constantLong R_law 31 4294967295) 912 = true := by decide +kernel
set_option maxRecDepth 100000 in
theorem lk_new_7 : (okP (.classLink R_law 7 (clQ 8).1) 45 && okP (.instantiable (clQ 8).1 (clQ 8).2.2) 46 && okP (.initialized (clQ 8).1) 34) = true := by decide +kernel
set_option maxRecDepth 100000 in
theorem lk_new_10 : (okP (.classLink R_law 10 (clQ 9).1) 596 && okP (.instantiable (clQ 9).1 (clQ 9).2.2) 597 && okP (.initialized (clQ 9).1) 42) = true := by decide +kernel
set_option maxRecDepth 100000 in
theorem d_law_0 : decode code 0 = .ok (.new 7, 3) := by decide +kernel
set_option maxRecDepth 100000 in
theorem d_law_3 : decode code 3 = .ok (.dup, 1) := by decide +kernel
set_option maxRecDepth 100000 in
theorem d_law_4 : decode code 4 = .ok (.invokespecial 9, 3) := by decide +kernel
set_option maxRecDepth 100000 in
theorem d_law_7 : decode code 7 = .ok (.astore_n 1, 1) := by decide +kernel
set_option maxRecDepth 100000 in
theorem d_law_8 : decode code 8 = .ok (.new 10, 3) := by decide +kernel
set_option maxRecDepth 100000 in
theorem d_law_11 : decode code 11 = .ok (.dup, 1) := by decide +kernel
set_option maxRecDepth 100000 in
theorem d_law_12 : decode code 12 = .ok (.invokespecial 12, 3) := by decide +kernel
set_option maxRecDepth 100000 in
theorem d_law_15 : decode code 15 = .ok (.astore_n 2, 1) := by decide +kernel
set_option maxRecDepth 100000 in
theorem d_law_16 : decode code 16 = .ok (.iconst 0, 1) := by decide +kernel
set_option maxRecDepth 100000 in
theorem d_law_17 : decode code 17 = .ok (.istore_n 3, 1) := by decide +kernel
set_option maxRecDepth 100000 in
theorem d_law_18 : decode code 18 = .ok (.iload_n 3, 1) := by decide +kernel
set_option maxRecDepth 100000 in
theorem d_law_19 : decode code 19 = .ok (.aload_n 0, 1) := by decide +kernel
set_option maxRecDepth 100000 in
theorem d_law_20 : decode code 20 = .ok (.arraylength, 1) := by decide +kernel
set_option maxRecDepth 100000 in
theorem d_law_21 : decode code 21 = .ok (.bipush 7, 2) := by decide +kernel
set_option maxRecDepth 100000 in
theorem d_law_23 : decode code 23 = .ok (.isub, 1) := by decide +kernel
set_option maxRecDepth 100000 in
theorem d_law_24 : decode code 24 = .ok (.if_icmp .gt (850), 3) := by decide +kernel
set_option maxRecDepth 100000 in
theorem d_law_27 : decode code 27 = .ok (.aload_n 0, 1) := by decide +kernel
set_option maxRecDepth 100000 in
theorem d_law_28 : decode code 28 = .ok (.iload_n 3, 1) := by decide +kernel
set_option maxRecDepth 100000 in
theorem d_law_29 : decode code 29 = .ok (.iaload, 1) := by decide +kernel
set_option maxRecDepth 100000 in
theorem d_law_30 : decode code 30 = .ok (.bipush 31, 2) := by decide +kernel
set_option maxRecDepth 100000 in
theorem d_law_32 : decode code 32 = .ok (.iand, 1) := by decide +kernel
set_option maxRecDepth 100000 in
theorem d_law_33 : decode code 33 = .ok (.tableswitch (835) 0 18 #[91, 134, 177, 210, 253, 369, 412, 455, 468, 571, 605, 639, 663, 676, 709, 732, 755, 799, 822], 91) := by decide +kernel
set_option maxRecDepth 100000 in
theorem d_law_124 : decode code 124 = .ok (.aload_n 1, 1) := by decide +kernel
set_option maxRecDepth 100000 in
theorem d_law_125 : decode code 125 = .ok (.aload_n 0, 1) := by decide +kernel
set_option maxRecDepth 100000 in
theorem d_law_126 : decode code 126 = .ok (.iload_n 3, 1) := by decide +kernel
set_option maxRecDepth 100000 in
theorem d_law_127 : decode code 127 = .ok (.iconst 1, 1) := by decide +kernel
set_option maxRecDepth 100000 in
theorem d_law_128 : decode code 128 = .ok (.iadd, 1) := by decide +kernel
set_option maxRecDepth 100000 in
theorem d_law_129 : decode code 129 = .ok (.iaload, 1) := by decide +kernel
set_option maxRecDepth 100000 in
theorem d_law_130 : decode code 130 = .ok (.aload_n 0, 1) := by decide +kernel
set_option maxRecDepth 100000 in
theorem d_law_131 : decode code 131 = .ok (.iload_n 3, 1) := by decide +kernel
set_option maxRecDepth 100000 in
theorem d_law_132 : decode code 132 = .ok (.iconst 2, 1) := by decide +kernel
set_option maxRecDepth 100000 in
theorem d_law_133 : decode code 133 = .ok (.iadd, 1) := by decide +kernel
set_option maxRecDepth 100000 in
theorem d_law_134 : decode code 134 = .ok (.iaload, 1) := by decide +kernel
set_option maxRecDepth 100000 in
theorem d_law_135 : decode code 135 = .ok (.aload_n 0, 1) := by decide +kernel
set_option maxRecDepth 100000 in
theorem d_law_136 : decode code 136 = .ok (.iload_n 3, 1) := by decide +kernel
set_option maxRecDepth 100000 in
theorem d_law_137 : decode code 137 = .ok (.iconst 3, 1) := by decide +kernel
set_option maxRecDepth 100000 in
theorem d_law_138 : decode code 138 = .ok (.iadd, 1) := by decide +kernel
set_option maxRecDepth 100000 in
theorem d_law_139 : decode code 139 = .ok (.iaload, 1) := by decide +kernel
set_option maxRecDepth 100000 in
theorem d_law_140 : decode code 140 = .ok (.invokevirtual 13, 3) := by decide +kernel
set_option maxRecDepth 100000 in
theorem d_law_143 : decode code 143 = .ok (.aload_n 2, 1) := by decide +kernel
set_option maxRecDepth 100000 in
theorem d_law_144 : decode code 144 = .ok (.aload_n 0, 1) := by decide +kernel
set_option maxRecDepth 100000 in
theorem d_law_145 : decode code 145 = .ok (.iload_n 3, 1) := by decide +kernel
set_option maxRecDepth 100000 in
theorem d_law_146 : decode code 146 = .ok (.iconst 1, 1) := by decide +kernel
set_option maxRecDepth 100000 in
theorem d_law_147 : decode code 147 = .ok (.iadd, 1) := by decide +kernel
set_option maxRecDepth 100000 in
theorem d_law_148 : decode code 148 = .ok (.iaload, 1) := by decide +kernel
set_option maxRecDepth 100000 in
theorem d_law_149 : decode code 149 = .ok (.aload_n 0, 1) := by decide +kernel
set_option maxRecDepth 100000 in
theorem d_law_150 : decode code 150 = .ok (.iload_n 3, 1) := by decide +kernel
set_option maxRecDepth 100000 in
theorem d_law_151 : decode code 151 = .ok (.iconst 2, 1) := by decide +kernel
set_option maxRecDepth 100000 in
theorem d_law_152 : decode code 152 = .ok (.iadd, 1) := by decide +kernel
set_option maxRecDepth 100000 in
theorem d_law_153 : decode code 153 = .ok (.iaload, 1) := by decide +kernel
set_option maxRecDepth 100000 in
theorem d_law_154 : decode code 154 = .ok (.aload_n 0, 1) := by decide +kernel
set_option maxRecDepth 100000 in
theorem d_law_155 : decode code 155 = .ok (.iload_n 3, 1) := by decide +kernel
set_option maxRecDepth 100000 in
theorem d_law_156 : decode code 156 = .ok (.iconst 3, 1) := by decide +kernel
set_option maxRecDepth 100000 in
theorem d_law_157 : decode code 157 = .ok (.iadd, 1) := by decide +kernel
set_option maxRecDepth 100000 in
theorem d_law_158 : decode code 158 = .ok (.iaload, 1) := by decide +kernel
set_option maxRecDepth 100000 in
theorem d_law_159 : decode code 159 = .ok (.invokevirtual 17, 3) := by decide +kernel
set_option maxRecDepth 100000 in
theorem d_law_162 : decode code 162 = .ok (.if_icmp .eq (706), 3) := by decide +kernel
set_option maxRecDepth 100000 in
theorem d_law_165 : decode code 165 = .ok (.iconst 0, 1) := by decide +kernel
set_option maxRecDepth 100000 in
theorem d_law_166 : decode code 166 = .ok (.ireturn, 1) := by decide +kernel
set_option maxRecDepth 100000 in
theorem d_law_167 : decode code 167 = .ok (.aload_n 1, 1) := by decide +kernel
set_option maxRecDepth 100000 in
theorem d_law_168 : decode code 168 = .ok (.aload_n 0, 1) := by decide +kernel
set_option maxRecDepth 100000 in
theorem d_law_169 : decode code 169 = .ok (.iload_n 3, 1) := by decide +kernel
set_option maxRecDepth 100000 in
theorem d_law_170 : decode code 170 = .ok (.iconst 1, 1) := by decide +kernel
set_option maxRecDepth 100000 in
theorem d_law_171 : decode code 171 = .ok (.iadd, 1) := by decide +kernel
set_option maxRecDepth 100000 in
theorem d_law_172 : decode code 172 = .ok (.iaload, 1) := by decide +kernel
set_option maxRecDepth 100000 in
theorem d_law_173 : decode code 173 = .ok (.aload_n 0, 1) := by decide +kernel
set_option maxRecDepth 100000 in
theorem d_law_174 : decode code 174 = .ok (.iload_n 3, 1) := by decide +kernel
set_option maxRecDepth 100000 in
theorem d_law_175 : decode code 175 = .ok (.iconst 2, 1) := by decide +kernel
set_option maxRecDepth 100000 in
theorem d_law_176 : decode code 176 = .ok (.iadd, 1) := by decide +kernel
set_option maxRecDepth 100000 in
theorem d_law_177 : decode code 177 = .ok (.iaload, 1) := by decide +kernel
set_option maxRecDepth 100000 in
theorem d_law_178 : decode code 178 = .ok (.aload_n 0, 1) := by decide +kernel
set_option maxRecDepth 100000 in
theorem d_law_179 : decode code 179 = .ok (.iload_n 3, 1) := by decide +kernel
set_option maxRecDepth 100000 in
theorem d_law_180 : decode code 180 = .ok (.iconst 3, 1) := by decide +kernel
set_option maxRecDepth 100000 in
theorem d_law_181 : decode code 181 = .ok (.iadd, 1) := by decide +kernel
set_option maxRecDepth 100000 in
theorem d_law_182 : decode code 182 = .ok (.iaload, 1) := by decide +kernel
set_option maxRecDepth 100000 in
theorem d_law_183 : decode code 183 = .ok (.invokevirtual 18, 3) := by decide +kernel
set_option maxRecDepth 100000 in
theorem d_law_186 : decode code 186 = .ok (.aload_n 2, 1) := by decide +kernel
set_option maxRecDepth 100000 in
theorem d_law_187 : decode code 187 = .ok (.aload_n 0, 1) := by decide +kernel
set_option maxRecDepth 100000 in
theorem d_law_188 : decode code 188 = .ok (.iload_n 3, 1) := by decide +kernel
set_option maxRecDepth 100000 in
theorem d_law_189 : decode code 189 = .ok (.iconst 1, 1) := by decide +kernel
set_option maxRecDepth 100000 in
theorem d_law_190 : decode code 190 = .ok (.iadd, 1) := by decide +kernel
set_option maxRecDepth 100000 in
theorem d_law_191 : decode code 191 = .ok (.iaload, 1) := by decide +kernel
set_option maxRecDepth 100000 in
theorem d_law_192 : decode code 192 = .ok (.aload_n 0, 1) := by decide +kernel
set_option maxRecDepth 100000 in
theorem d_law_193 : decode code 193 = .ok (.iload_n 3, 1) := by decide +kernel
set_option maxRecDepth 100000 in
theorem d_law_194 : decode code 194 = .ok (.iconst 2, 1) := by decide +kernel
set_option maxRecDepth 100000 in
theorem d_law_195 : decode code 195 = .ok (.iadd, 1) := by decide +kernel
set_option maxRecDepth 100000 in
theorem d_law_196 : decode code 196 = .ok (.iaload, 1) := by decide +kernel
set_option maxRecDepth 100000 in
theorem d_law_197 : decode code 197 = .ok (.aload_n 0, 1) := by decide +kernel
set_option maxRecDepth 100000 in
theorem d_law_198 : decode code 198 = .ok (.iload_n 3, 1) := by decide +kernel
set_option maxRecDepth 100000 in
theorem d_law_199 : decode code 199 = .ok (.iconst 3, 1) := by decide +kernel
set_option maxRecDepth 100000 in
theorem d_law_200 : decode code 200 = .ok (.iadd, 1) := by decide +kernel
set_option maxRecDepth 100000 in
theorem d_law_201 : decode code 201 = .ok (.iaload, 1) := by decide +kernel
set_option maxRecDepth 100000 in
theorem d_law_202 : decode code 202 = .ok (.invokevirtual 21, 3) := by decide +kernel
set_option maxRecDepth 100000 in
theorem d_law_205 : decode code 205 = .ok (.if_icmp .eq (663), 3) := by decide +kernel
set_option maxRecDepth 100000 in
theorem d_law_208 : decode code 208 = .ok (.iconst 0, 1) := by decide +kernel
set_option maxRecDepth 100000 in
theorem d_law_209 : decode code 209 = .ok (.ireturn, 1) := by decide +kernel
set_option maxRecDepth 100000 in
theorem d_law_210 : decode code 210 = .ok (.aload_n 1, 1) := by decide +kernel
set_option maxRecDepth 100000 in
theorem d_law_211 : decode code 211 = .ok (.aload_n 0, 1) := by decide +kernel
set_option maxRecDepth 100000 in
theorem d_law_212 : decode code 212 = .ok (.iload_n 3, 1) := by decide +kernel
set_option maxRecDepth 100000 in
theorem d_law_213 : decode code 213 = .ok (.iconst 1, 1) := by decide +kernel
set_option maxRecDepth 100000 in
theorem d_law_214 : decode code 214 = .ok (.iadd, 1) := by decide +kernel
set_option maxRecDepth 100000 in
theorem d_law_215 : decode code 215 = .ok (.iaload, 1) := by decide +kernel
set_option maxRecDepth 100000 in
theorem d_law_216 : decode code 216 = .ok (.aload_n 0, 1) := by decide +kernel
set_option maxRecDepth 100000 in
theorem d_law_217 : decode code 217 = .ok (.iload_n 3, 1) := by decide +kernel
set_option maxRecDepth 100000 in
theorem d_law_218 : decode code 218 = .ok (.iconst 2, 1) := by decide +kernel
set_option maxRecDepth 100000 in
theorem d_law_219 : decode code 219 = .ok (.iadd, 1) := by decide +kernel
set_option maxRecDepth 100000 in
theorem d_law_220 : decode code 220 = .ok (.iaload, 1) := by decide +kernel
set_option maxRecDepth 100000 in
theorem d_law_221 : decode code 221 = .ok (.invokevirtual 22, 3) := by decide +kernel
set_option maxRecDepth 100000 in
theorem d_law_224 : decode code 224 = .ok (.aload_n 2, 1) := by decide +kernel
set_option maxRecDepth 100000 in
theorem d_law_225 : decode code 225 = .ok (.aload_n 0, 1) := by decide +kernel
set_option maxRecDepth 100000 in
theorem d_law_226 : decode code 226 = .ok (.iload_n 3, 1) := by decide +kernel
set_option maxRecDepth 100000 in
theorem d_law_227 : decode code 227 = .ok (.iconst 1, 1) := by decide +kernel
set_option maxRecDepth 100000 in
theorem d_law_228 : decode code 228 = .ok (.iadd, 1) := by decide +kernel
set_option maxRecDepth 100000 in
theorem d_law_229 : decode code 229 = .ok (.iaload, 1) := by decide +kernel
set_option maxRecDepth 100000 in
theorem d_law_230 : decode code 230 = .ok (.aload_n 0, 1) := by decide +kernel
set_option maxRecDepth 100000 in
theorem d_law_231 : decode code 231 = .ok (.iload_n 3, 1) := by decide +kernel
set_option maxRecDepth 100000 in
theorem d_law_232 : decode code 232 = .ok (.iconst 2, 1) := by decide +kernel
set_option maxRecDepth 100000 in
theorem d_law_233 : decode code 233 = .ok (.iadd, 1) := by decide +kernel
set_option maxRecDepth 100000 in
theorem d_law_234 : decode code 234 = .ok (.iaload, 1) := by decide +kernel
set_option maxRecDepth 100000 in
theorem d_law_235 : decode code 235 = .ok (.invokevirtual 26, 3) := by decide +kernel
set_option maxRecDepth 100000 in
theorem d_law_238 : decode code 238 = .ok (.if_icmp .eq (630), 3) := by decide +kernel
set_option maxRecDepth 100000 in
theorem d_law_241 : decode code 241 = .ok (.iconst 0, 1) := by decide +kernel
set_option maxRecDepth 100000 in
theorem d_law_242 : decode code 242 = .ok (.ireturn, 1) := by decide +kernel
set_option maxRecDepth 100000 in
theorem d_law_243 : decode code 243 = .ok (.aload_n 1, 1) := by decide +kernel
set_option maxRecDepth 100000 in
theorem d_law_244 : decode code 244 = .ok (.aload_n 0, 1) := by decide +kernel
set_option maxRecDepth 100000 in
theorem d_law_245 : decode code 245 = .ok (.iload_n 3, 1) := by decide +kernel
set_option maxRecDepth 100000 in
theorem d_law_246 : decode code 246 = .ok (.iconst 1, 1) := by decide +kernel
set_option maxRecDepth 100000 in
theorem d_law_247 : decode code 247 = .ok (.iadd, 1) := by decide +kernel
set_option maxRecDepth 100000 in
theorem d_law_248 : decode code 248 = .ok (.iaload, 1) := by decide +kernel
set_option maxRecDepth 100000 in
theorem d_law_249 : decode code 249 = .ok (.aload_n 0, 1) := by decide +kernel
set_option maxRecDepth 100000 in
theorem d_law_250 : decode code 250 = .ok (.iload_n 3, 1) := by decide +kernel
set_option maxRecDepth 100000 in
theorem d_law_251 : decode code 251 = .ok (.iconst 2, 1) := by decide +kernel
set_option maxRecDepth 100000 in
theorem d_law_252 : decode code 252 = .ok (.iadd, 1) := by decide +kernel
set_option maxRecDepth 100000 in
theorem d_law_253 : decode code 253 = .ok (.iaload, 1) := by decide +kernel
set_option maxRecDepth 100000 in
theorem d_law_254 : decode code 254 = .ok (.aload_n 0, 1) := by decide +kernel
set_option maxRecDepth 100000 in
theorem d_law_255 : decode code 255 = .ok (.iload_n 3, 1) := by decide +kernel
set_option maxRecDepth 100000 in
theorem d_law_256 : decode code 256 = .ok (.iconst 3, 1) := by decide +kernel
set_option maxRecDepth 100000 in
theorem d_law_257 : decode code 257 = .ok (.iadd, 1) := by decide +kernel
set_option maxRecDepth 100000 in
theorem d_law_258 : decode code 258 = .ok (.iaload, 1) := by decide +kernel
set_option maxRecDepth 100000 in
theorem d_law_259 : decode code 259 = .ok (.invokevirtual 27, 3) := by decide +kernel
set_option maxRecDepth 100000 in
theorem d_law_262 : decode code 262 = .ok (.aload_n 2, 1) := by decide +kernel
set_option maxRecDepth 100000 in
theorem d_law_263 : decode code 263 = .ok (.aload_n 0, 1) := by decide +kernel
set_option maxRecDepth 100000 in
theorem d_law_264 : decode code 264 = .ok (.iload_n 3, 1) := by decide +kernel
set_option maxRecDepth 100000 in
theorem d_law_265 : decode code 265 = .ok (.iconst 1, 1) := by decide +kernel
set_option maxRecDepth 100000 in
theorem d_law_266 : decode code 266 = .ok (.iadd, 1) := by decide +kernel
set_option maxRecDepth 100000 in
theorem d_law_267 : decode code 267 = .ok (.iaload, 1) := by decide +kernel
set_option maxRecDepth 100000 in
theorem d_law_268 : decode code 268 = .ok (.aload_n 0, 1) := by decide +kernel
set_option maxRecDepth 100000 in
theorem d_law_269 : decode code 269 = .ok (.iload_n 3, 1) := by decide +kernel
set_option maxRecDepth 100000 in
theorem d_law_270 : decode code 270 = .ok (.iconst 2, 1) := by decide +kernel
set_option maxRecDepth 100000 in
theorem d_law_271 : decode code 271 = .ok (.iadd, 1) := by decide +kernel
set_option maxRecDepth 100000 in
theorem d_law_272 : decode code 272 = .ok (.iaload, 1) := by decide +kernel
set_option maxRecDepth 100000 in
theorem d_law_273 : decode code 273 = .ok (.aload_n 0, 1) := by decide +kernel
set_option maxRecDepth 100000 in
theorem d_law_274 : decode code 274 = .ok (.iload_n 3, 1) := by decide +kernel
set_option maxRecDepth 100000 in
theorem d_law_275 : decode code 275 = .ok (.iconst 3, 1) := by decide +kernel
set_option maxRecDepth 100000 in
theorem d_law_276 : decode code 276 = .ok (.iadd, 1) := by decide +kernel
set_option maxRecDepth 100000 in
theorem d_law_277 : decode code 277 = .ok (.iaload, 1) := by decide +kernel
set_option maxRecDepth 100000 in
theorem d_law_278 : decode code 278 = .ok (.invokevirtual 30, 3) := by decide +kernel
set_option maxRecDepth 100000 in
theorem d_law_281 : decode code 281 = .ok (.if_icmp .eq (587), 3) := by decide +kernel
set_option maxRecDepth 100000 in
theorem d_law_284 : decode code 284 = .ok (.iconst 0, 1) := by decide +kernel
set_option maxRecDepth 100000 in
theorem d_law_285 : decode code 285 = .ok (.ireturn, 1) := by decide +kernel
set_option maxRecDepth 100000 in
theorem d_law_286 : decode code 286 = .ok (.aload_n 1, 1) := by decide +kernel
set_option maxRecDepth 100000 in
theorem d_law_287 : decode code 287 = .ok (.aload_n 0, 1) := by decide +kernel
set_option maxRecDepth 100000 in
theorem d_law_288 : decode code 288 = .ok (.iload_n 3, 1) := by decide +kernel
set_option maxRecDepth 100000 in
theorem d_law_289 : decode code 289 = .ok (.iconst 1, 1) := by decide +kernel
set_option maxRecDepth 100000 in
theorem d_law_290 : decode code 290 = .ok (.iadd, 1) := by decide +kernel
set_option maxRecDepth 100000 in
theorem d_law_291 : decode code 291 = .ok (.iaload, 1) := by decide +kernel
set_option maxRecDepth 100000 in
theorem d_law_292 : decode code 292 = .ok (.aload_n 0, 1) := by decide +kernel
set_option maxRecDepth 100000 in
theorem d_law_293 : decode code 293 = .ok (.iload_n 3, 1) := by decide +kernel
set_option maxRecDepth 100000 in
theorem d_law_294 : decode code 294 = .ok (.iconst 2, 1) := by decide +kernel
set_option maxRecDepth 100000 in
theorem d_law_295 : decode code 295 = .ok (.iadd, 1) := by decide +kernel
set_option maxRecDepth 100000 in
theorem d_law_296 : decode code 296 = .ok (.iaload, 1) := by decide +kernel
set_option maxRecDepth 100000 in
theorem d_law_297 : decode code 297 = .ok (.i2l, 1) := by decide +kernel
set_option maxRecDepth 100000 in
theorem d_law_298 : decode code 298 = .ok (.bipush 32, 2) := by decide +kernel
set_option maxRecDepth 100000 in
theorem d_law_300 : decode code 300 = .ok (.lshl, 1) := by decide +kernel
set_option maxRecDepth 100000 in
theorem d_law_301 : decode code 301 = .ok (.aload_n 0, 1) := by decide +kernel
set_option maxRecDepth 100000 in
theorem d_law_302 : decode code 302 = .ok (.iload_n 3, 1) := by decide +kernel
set_option maxRecDepth 100000 in
theorem d_law_303 : decode code 303 = .ok (.iconst 3, 1) := by decide +kernel
set_option maxRecDepth 100000 in
theorem d_law_304 : decode code 304 = .ok (.iadd, 1) := by decide +kernel
set_option maxRecDepth 100000 in
theorem d_law_305 : decode code 305 = .ok (.iaload, 1) := by decide +kernel
set_option maxRecDepth 100000 in
theorem d_law_306 : decode code 306 = .ok (.i2l, 1) := by decide +kernel
set_option maxRecDepth 100000 in
theorem d_law_307 : decode code 307 = .ok (.ldc2_w 31, 3) := by decide +kernel
set_option maxRecDepth 100000 in
theorem d_law_310 : decode code 310 = .ok (.land, 1) := by decide +kernel
set_option maxRecDepth 100000 in
theorem d_law_311 : decode code 311 = .ok (.lor, 1) := by decide +kernel
set_option maxRecDepth 100000 in
theorem d_law_312 : decode code 312 = .ok (.aload_n 0, 1) := by decide +kernel
set_option maxRecDepth 100000 in
theorem d_law_313 : decode code 313 = .ok (.iload_n 3, 1) := by decide +kernel
set_option maxRecDepth 100000 in
theorem d_law_314 : decode code 314 = .ok (.iconst 4, 1) := by decide +kernel
set_option maxRecDepth 100000 in
theorem d_law_315 : decode code 315 = .ok (.iadd, 1) := by decide +kernel
set_option maxRecDepth 100000 in
theorem d_law_316 : decode code 316 = .ok (.iaload, 1) := by decide +kernel
set_option maxRecDepth 100000 in
theorem d_law_317 : decode code 317 = .ok (.i2l, 1) := by decide +kernel
set_option maxRecDepth 100000 in
theorem d_law_318 : decode code 318 = .ok (.bipush 32, 2) := by decide +kernel
set_option maxRecDepth 100000 in
theorem d_law_320 : decode code 320 = .ok (.lshl, 1) := by decide +kernel
set_option maxRecDepth 100000 in
theorem d_law_321 : decode code 321 = .ok (.aload_n 0, 1) := by decide +kernel
set_option maxRecDepth 100000 in
theorem d_law_322 : decode code 322 = .ok (.iload_n 3, 1) := by decide +kernel
set_option maxRecDepth 100000 in
theorem d_law_323 : decode code 323 = .ok (.iconst 5, 1) := by decide +kernel
set_option maxRecDepth 100000 in
theorem d_law_324 : decode code 324 = .ok (.iadd, 1) := by decide +kernel
set_option maxRecDepth 100000 in
theorem d_law_325 : decode code 325 = .ok (.iaload, 1) := by decide +kernel
set_option maxRecDepth 100000 in
theorem d_law_326 : decode code 326 = .ok (.i2l, 1) := by decide +kernel
set_option maxRecDepth 100000 in
theorem d_law_327 : decode code 327 = .ok (.ldc2_w 31, 3) := by decide +kernel
set_option maxRecDepth 100000 in
theorem d_law_330 : decode code 330 = .ok (.land, 1) := by decide +kernel
set_option maxRecDepth 100000 in
theorem d_law_331 : decode code 331 = .ok (.lor, 1) := by decide +kernel
set_option maxRecDepth 100000 in
theorem d_law_332 : decode code 332 = .ok (.aload_n 0, 1) := by decide +kernel
set_option maxRecDepth 100000 in
theorem d_law_333 : decode code 333 = .ok (.iload_n 3, 1) := by decide +kernel
set_option maxRecDepth 100000 in
theorem d_law_334 : decode code 334 = .ok (.bipush 6, 2) := by decide +kernel
set_option maxRecDepth 100000 in
theorem d_law_336 : decode code 336 = .ok (.iadd, 1) := by decide +kernel
set_option maxRecDepth 100000 in
theorem d_law_337 : decode code 337 = .ok (.iaload, 1) := by decide +kernel
set_option maxRecDepth 100000 in
theorem d_law_338 : decode code 338 = .ok (.invokevirtual 33, 3) := by decide +kernel
set_option maxRecDepth 100000 in
theorem d_law_341 : decode code 341 = .ok (.aload_n 2, 1) := by decide +kernel
set_option maxRecDepth 100000 in
theorem d_law_342 : decode code 342 = .ok (.aload_n 0, 1) := by decide +kernel
set_option maxRecDepth 100000 in
theorem d_law_343 : decode code 343 = .ok (.iload_n 3, 1) := by decide +kernel
set_option maxRecDepth 100000 in
theorem d_law_344 : decode code 344 = .ok (.iconst 1, 1) := by decide +kernel
set_option maxRecDepth 100000 in
theorem d_law_345 : decode code 345 = .ok (.iadd, 1) := by decide +kernel
set_option maxRecDepth 100000 in
theorem d_law_346 : decode code 346 = .ok (.iaload, 1) := by decide +kernel
set_option maxRecDepth 100000 in
theorem d_law_347 : decode code 347 = .ok (.aload_n 0, 1) := by decide +kernel
set_option maxRecDepth 100000 in
theorem d_law_348 : decode code 348 = .ok (.iload_n 3, 1) := by decide +kernel
set_option maxRecDepth 100000 in
theorem d_law_349 : decode code 349 = .ok (.iconst 2, 1) := by decide +kernel
set_option maxRecDepth 100000 in
theorem d_law_350 : decode code 350 = .ok (.iadd, 1) := by decide +kernel
set_option maxRecDepth 100000 in
theorem d_law_351 : decode code 351 = .ok (.iaload, 1) := by decide +kernel
set_option maxRecDepth 100000 in
theorem d_law_352 : decode code 352 = .ok (.i2l, 1) := by decide +kernel
set_option maxRecDepth 100000 in
theorem d_law_353 : decode code 353 = .ok (.bipush 32, 2) := by decide +kernel
set_option maxRecDepth 100000 in
theorem d_law_355 : decode code 355 = .ok (.lshl, 1) := by decide +kernel
set_option maxRecDepth 100000 in
theorem d_law_356 : decode code 356 = .ok (.aload_n 0, 1) := by decide +kernel
set_option maxRecDepth 100000 in
theorem d_law_357 : decode code 357 = .ok (.iload_n 3, 1) := by decide +kernel
set_option maxRecDepth 100000 in
theorem d_law_358 : decode code 358 = .ok (.iconst 3, 1) := by decide +kernel
set_option maxRecDepth 100000 in
theorem d_law_359 : decode code 359 = .ok (.iadd, 1) := by decide +kernel
set_option maxRecDepth 100000 in
theorem d_law_360 : decode code 360 = .ok (.iaload, 1) := by decide +kernel
set_option maxRecDepth 100000 in
theorem d_law_361 : decode code 361 = .ok (.i2l, 1) := by decide +kernel
set_option maxRecDepth 100000 in
theorem d_law_362 : decode code 362 = .ok (.ldc2_w 31, 3) := by decide +kernel
set_option maxRecDepth 100000 in
theorem d_law_365 : decode code 365 = .ok (.land, 1) := by decide +kernel
set_option maxRecDepth 100000 in
theorem d_law_366 : decode code 366 = .ok (.lor, 1) := by decide +kernel
set_option maxRecDepth 100000 in
theorem d_law_367 : decode code 367 = .ok (.aload_n 0, 1) := by decide +kernel
set_option maxRecDepth 100000 in
theorem d_law_368 : decode code 368 = .ok (.iload_n 3, 1) := by decide +kernel
set_option maxRecDepth 100000 in
theorem d_law_369 : decode code 369 = .ok (.iconst 4, 1) := by decide +kernel
set_option maxRecDepth 100000 in
theorem d_law_370 : decode code 370 = .ok (.iadd, 1) := by decide +kernel
set_option maxRecDepth 100000 in
theorem d_law_371 : decode code 371 = .ok (.iaload, 1) := by decide +kernel
set_option maxRecDepth 100000 in
theorem d_law_372 : decode code 372 = .ok (.i2l, 1) := by decide +kernel
set_option maxRecDepth 100000 in
theorem d_law_373 : decode code 373 = .ok (.bipush 32, 2) := by decide +kernel
set_option maxRecDepth 100000 in
theorem d_law_375 : decode code 375 = .ok (.lshl, 1) := by decide +kernel
set_option maxRecDepth 100000 in
theorem d_law_376 : decode code 376 = .ok (.aload_n 0, 1) := by decide +kernel
set_option maxRecDepth 100000 in
theorem d_law_377 : decode code 377 = .ok (.iload_n 3, 1) := by decide +kernel
set_option maxRecDepth 100000 in
theorem d_law_378 : decode code 378 = .ok (.iconst 5, 1) := by decide +kernel
set_option maxRecDepth 100000 in
theorem d_law_379 : decode code 379 = .ok (.iadd, 1) := by decide +kernel
set_option maxRecDepth 100000 in
theorem d_law_380 : decode code 380 = .ok (.iaload, 1) := by decide +kernel
set_option maxRecDepth 100000 in
theorem d_law_381 : decode code 381 = .ok (.i2l, 1) := by decide +kernel
set_option maxRecDepth 100000 in
theorem d_law_382 : decode code 382 = .ok (.ldc2_w 31, 3) := by decide +kernel
set_option maxRecDepth 100000 in
theorem d_law_385 : decode code 385 = .ok (.land, 1) := by decide +kernel
set_option maxRecDepth 100000 in
theorem d_law_386 : decode code 386 = .ok (.lor, 1) := by decide +kernel
set_option maxRecDepth 100000 in
theorem d_law_387 : decode code 387 = .ok (.aload_n 0, 1) := by decide +kernel
set_option maxRecDepth 100000 in
theorem d_law_388 : decode code 388 = .ok (.iload_n 3, 1) := by decide +kernel
set_option maxRecDepth 100000 in
theorem d_law_389 : decode code 389 = .ok (.bipush 6, 2) := by decide +kernel
set_option maxRecDepth 100000 in
theorem d_law_391 : decode code 391 = .ok (.iadd, 1) := by decide +kernel
set_option maxRecDepth 100000 in
theorem d_law_392 : decode code 392 = .ok (.iaload, 1) := by decide +kernel
set_option maxRecDepth 100000 in
theorem d_law_393 : decode code 393 = .ok (.invokevirtual 37, 3) := by decide +kernel
set_option maxRecDepth 100000 in
theorem d_law_396 : decode code 396 = .ok (.lcmp, 1) := by decide +kernel
set_option maxRecDepth 100000 in
theorem d_law_397 : decode code 397 = .ok (.ifCond .eq (471), 3) := by decide +kernel
set_option maxRecDepth 100000 in
theorem d_law_400 : decode code 400 = .ok (.iconst 0, 1) := by decide +kernel
set_option maxRecDepth 100000 in
theorem d_law_401 : decode code 401 = .ok (.ireturn, 1) := by decide +kernel
set_option maxRecDepth 100000 in
theorem d_law_402 : decode code 402 = .ok (.aload_n 1, 1) := by decide +kernel
set_option maxRecDepth 100000 in
theorem d_law_403 : decode code 403 = .ok (.aload_n 0, 1) := by decide +kernel
set_option maxRecDepth 100000 in
theorem d_law_404 : decode code 404 = .ok (.iload_n 3, 1) := by decide +kernel
set_option maxRecDepth 100000 in
theorem d_law_405 : decode code 405 = .ok (.iconst 1, 1) := by decide +kernel
set_option maxRecDepth 100000 in
theorem d_law_406 : decode code 406 = .ok (.iadd, 1) := by decide +kernel
set_option maxRecDepth 100000 in
theorem d_law_407 : decode code 407 = .ok (.iaload, 1) := by decide +kernel
set_option maxRecDepth 100000 in
theorem d_law_408 : decode code 408 = .ok (.aload_n 0, 1) := by decide +kernel
set_option maxRecDepth 100000 in
theorem d_law_409 : decode code 409 = .ok (.iload_n 3, 1) := by decide +kernel
set_option maxRecDepth 100000 in
theorem d_law_410 : decode code 410 = .ok (.iconst 2, 1) := by decide +kernel
set_option maxRecDepth 100000 in
theorem d_law_411 : decode code 411 = .ok (.iadd, 1) := by decide +kernel
set_option maxRecDepth 100000 in
theorem d_law_412 : decode code 412 = .ok (.iaload, 1) := by decide +kernel
set_option maxRecDepth 100000 in
theorem d_law_413 : decode code 413 = .ok (.aload_n 0, 1) := by decide +kernel
set_option maxRecDepth 100000 in
theorem d_law_414 : decode code 414 = .ok (.iload_n 3, 1) := by decide +kernel
set_option maxRecDepth 100000 in
theorem d_law_415 : decode code 415 = .ok (.iconst 3, 1) := by decide +kernel
set_option maxRecDepth 100000 in
theorem d_law_416 : decode code 416 = .ok (.iadd, 1) := by decide +kernel
set_option maxRecDepth 100000 in
theorem d_law_417 : decode code 417 = .ok (.iaload, 1) := by decide +kernel
set_option maxRecDepth 100000 in
theorem d_law_418 : decode code 418 = .ok (.invokevirtual 38, 3) := by decide +kernel
set_option maxRecDepth 100000 in
theorem d_law_421 : decode code 421 = .ok (.aload_n 2, 1) := by decide +kernel
set_option maxRecDepth 100000 in
theorem d_law_422 : decode code 422 = .ok (.aload_n 0, 1) := by decide +kernel
set_option maxRecDepth 100000 in
theorem d_law_423 : decode code 423 = .ok (.iload_n 3, 1) := by decide +kernel
set_option maxRecDepth 100000 in
theorem d_law_424 : decode code 424 = .ok (.iconst 1, 1) := by decide +kernel
set_option maxRecDepth 100000 in
theorem d_law_425 : decode code 425 = .ok (.iadd, 1) := by decide +kernel
set_option maxRecDepth 100000 in
theorem d_law_426 : decode code 426 = .ok (.iaload, 1) := by decide +kernel
set_option maxRecDepth 100000 in
theorem d_law_427 : decode code 427 = .ok (.aload_n 0, 1) := by decide +kernel
set_option maxRecDepth 100000 in
theorem d_law_428 : decode code 428 = .ok (.iload_n 3, 1) := by decide +kernel
set_option maxRecDepth 100000 in
theorem d_law_429 : decode code 429 = .ok (.iconst 2, 1) := by decide +kernel
set_option maxRecDepth 100000 in
theorem d_law_430 : decode code 430 = .ok (.iadd, 1) := by decide +kernel
set_option maxRecDepth 100000 in
theorem d_law_431 : decode code 431 = .ok (.iaload, 1) := by decide +kernel
set_option maxRecDepth 100000 in
theorem d_law_432 : decode code 432 = .ok (.aload_n 0, 1) := by decide +kernel
set_option maxRecDepth 100000 in
theorem d_law_433 : decode code 433 = .ok (.iload_n 3, 1) := by decide +kernel
set_option maxRecDepth 100000 in
theorem d_law_434 : decode code 434 = .ok (.iconst 3, 1) := by decide +kernel
set_option maxRecDepth 100000 in
theorem d_law_435 : decode code 435 = .ok (.iadd, 1) := by decide +kernel
set_option maxRecDepth 100000 in
theorem d_law_436 : decode code 436 = .ok (.iaload, 1) := by decide +kernel
set_option maxRecDepth 100000 in
theorem d_law_437 : decode code 437 = .ok (.invokevirtual 41, 3) := by decide +kernel
set_option maxRecDepth 100000 in
theorem d_law_440 : decode code 440 = .ok (.if_icmp .eq (428), 3) := by decide +kernel
set_option maxRecDepth 100000 in
theorem d_law_443 : decode code 443 = .ok (.iconst 0, 1) := by decide +kernel
set_option maxRecDepth 100000 in
theorem d_law_444 : decode code 444 = .ok (.ireturn, 1) := by decide +kernel
set_option maxRecDepth 100000 in
theorem d_law_445 : decode code 445 = .ok (.aload_n 1, 1) := by decide +kernel
set_option maxRecDepth 100000 in
theorem d_law_446 : decode code 446 = .ok (.aload_n 0, 1) := by decide +kernel
set_option maxRecDepth 100000 in
theorem d_law_447 : decode code 447 = .ok (.iload_n 3, 1) := by decide +kernel
set_option maxRecDepth 100000 in
theorem d_law_448 : decode code 448 = .ok (.iconst 1, 1) := by decide +kernel
set_option maxRecDepth 100000 in
theorem d_law_449 : decode code 449 = .ok (.iadd, 1) := by decide +kernel
set_option maxRecDepth 100000 in
theorem d_law_450 : decode code 450 = .ok (.iaload, 1) := by decide +kernel
set_option maxRecDepth 100000 in
theorem d_law_451 : decode code 451 = .ok (.aload_n 0, 1) := by decide +kernel
set_option maxRecDepth 100000 in
theorem d_law_452 : decode code 452 = .ok (.iload_n 3, 1) := by decide +kernel
set_option maxRecDepth 100000 in
theorem d_law_453 : decode code 453 = .ok (.iconst 2, 1) := by decide +kernel
set_option maxRecDepth 100000 in
theorem d_law_454 : decode code 454 = .ok (.iadd, 1) := by decide +kernel
set_option maxRecDepth 100000 in
theorem d_law_455 : decode code 455 = .ok (.iaload, 1) := by decide +kernel
set_option maxRecDepth 100000 in
theorem d_law_456 : decode code 456 = .ok (.aload_n 0, 1) := by decide +kernel
set_option maxRecDepth 100000 in
theorem d_law_457 : decode code 457 = .ok (.iload_n 3, 1) := by decide +kernel
set_option maxRecDepth 100000 in
theorem d_law_458 : decode code 458 = .ok (.iconst 3, 1) := by decide +kernel
set_option maxRecDepth 100000 in
theorem d_law_459 : decode code 459 = .ok (.iadd, 1) := by decide +kernel
set_option maxRecDepth 100000 in
theorem d_law_460 : decode code 460 = .ok (.iaload, 1) := by decide +kernel
set_option maxRecDepth 100000 in
theorem d_law_461 : decode code 461 = .ok (.invokevirtual 42, 3) := by decide +kernel
set_option maxRecDepth 100000 in
theorem d_law_464 : decode code 464 = .ok (.aload_n 2, 1) := by decide +kernel
set_option maxRecDepth 100000 in
theorem d_law_465 : decode code 465 = .ok (.aload_n 0, 1) := by decide +kernel
set_option maxRecDepth 100000 in
theorem d_law_466 : decode code 466 = .ok (.iload_n 3, 1) := by decide +kernel
set_option maxRecDepth 100000 in
theorem d_law_467 : decode code 467 = .ok (.iconst 1, 1) := by decide +kernel
set_option maxRecDepth 100000 in
theorem d_law_468 : decode code 468 = .ok (.iadd, 1) := by decide +kernel
set_option maxRecDepth 100000 in
theorem d_law_469 : decode code 469 = .ok (.iaload, 1) := by decide +kernel
set_option maxRecDepth 100000 in
theorem d_law_470 : decode code 470 = .ok (.aload_n 0, 1) := by decide +kernel
set_option maxRecDepth 100000 in
theorem d_law_471 : decode code 471 = .ok (.iload_n 3, 1) := by decide +kernel
set_option maxRecDepth 100000 in
theorem d_law_472 : decode code 472 = .ok (.iconst 2, 1) := by decide +kernel
set_option maxRecDepth 100000 in
theorem d_law_473 : decode code 473 = .ok (.iadd, 1) := by decide +kernel
set_option maxRecDepth 100000 in
theorem d_law_474 : decode code 474 = .ok (.iaload, 1) := by decide +kernel
set_option maxRecDepth 100000 in
theorem d_law_475 : decode code 475 = .ok (.aload_n 0, 1) := by decide +kernel
set_option maxRecDepth 100000 in
theorem d_law_476 : decode code 476 = .ok (.iload_n 3, 1) := by decide +kernel
set_option maxRecDepth 100000 in
theorem d_law_477 : decode code 477 = .ok (.iconst 3, 1) := by decide +kernel
set_option maxRecDepth 100000 in
theorem d_law_478 : decode code 478 = .ok (.iadd, 1) := by decide +kernel
set_option maxRecDepth 100000 in
theorem d_law_479 : decode code 479 = .ok (.iaload, 1) := by decide +kernel
set_option maxRecDepth 100000 in
theorem d_law_480 : decode code 480 = .ok (.invokevirtual 45, 3) := by decide +kernel
set_option maxRecDepth 100000 in
theorem d_law_483 : decode code 483 = .ok (.if_icmp .eq (385), 3) := by decide +kernel
set_option maxRecDepth 100000 in
theorem d_law_486 : decode code 486 = .ok (.iconst 0, 1) := by decide +kernel
set_option maxRecDepth 100000 in
theorem d_law_487 : decode code 487 = .ok (.ireturn, 1) := by decide +kernel
set_option maxRecDepth 100000 in
theorem d_law_488 : decode code 488 = .ok (.aload_n 1, 1) := by decide +kernel
set_option maxRecDepth 100000 in
theorem d_law_489 : decode code 489 = .ok (.invokevirtual 46, 3) := by decide +kernel
set_option maxRecDepth 100000 in
theorem d_law_492 : decode code 492 = .ok (.aload_n 2, 1) := by decide +kernel
set_option maxRecDepth 100000 in
theorem d_law_493 : decode code 493 = .ok (.invokevirtual 50, 3) := by decide +kernel
set_option maxRecDepth 100000 in
theorem d_law_496 : decode code 496 = .ok (.if_icmp .eq (372), 3) := by decide +kernel
set_option maxRecDepth 100000 in
theorem d_law_499 : decode code 499 = .ok (.iconst 0, 1) := by decide +kernel
set_option maxRecDepth 100000 in
theorem d_law_500 : decode code 500 = .ok (.ireturn, 1) := by decide +kernel
set_option maxRecDepth 100000 in
theorem d_law_501 : decode code 501 = .ok (.aload_n 1, 1) := by decide +kernel
set_option maxRecDepth 100000 in
theorem d_law_502 : decode code 502 = .ok (.aload_n 0, 1) := by decide +kernel
set_option maxRecDepth 100000 in
theorem d_law_503 : decode code 503 = .ok (.iload_n 3, 1) := by decide +kernel
set_option maxRecDepth 100000 in
theorem d_law_504 : decode code 504 = .ok (.iconst 1, 1) := by decide +kernel
set_option maxRecDepth 100000 in
theorem d_law_505 : decode code 505 = .ok (.iadd, 1) := by decide +kernel
set_option maxRecDepth 100000 in
theorem d_law_506 : decode code 506 = .ok (.iaload, 1) := by decide +kernel
set_option maxRecDepth 100000 in
theorem d_law_507 : decode code 507 = .ok (.aload_n 0, 1) := by decide +kernel
set_option maxRecDepth 100000 in
theorem d_law_508 : decode code 508 = .ok (.iload_n 3, 1) := by decide +kernel
set_option maxRecDepth 100000 in
theorem d_law_509 : decode code 509 = .ok (.iconst 2, 1) := by decide +kernel
set_option maxRecDepth 100000 in
theorem d_law_510 : decode code 510 = .ok (.iadd, 1) := by decide +kernel
set_option maxRecDepth 100000 in
theorem d_law_511 : decode code 511 = .ok (.iaload, 1) := by decide +kernel
set_option maxRecDepth 100000 in
theorem d_law_512 : decode code 512 = .ok (.i2l, 1) := by decide +kernel
set_option maxRecDepth 100000 in
theorem d_law_513 : decode code 513 = .ok (.bipush 32, 2) := by decide +kernel
set_option maxRecDepth 100000 in
theorem d_law_515 : decode code 515 = .ok (.lshl, 1) := by decide +kernel
set_option maxRecDepth 100000 in
theorem d_law_516 : decode code 516 = .ok (.aload_n 0, 1) := by decide +kernel
set_option maxRecDepth 100000 in
theorem d_law_517 : decode code 517 = .ok (.iload_n 3, 1) := by decide +kernel
set_option maxRecDepth 100000 in
theorem d_law_518 : decode code 518 = .ok (.iconst 3, 1) := by decide +kernel
set_option maxRecDepth 100000 in
theorem d_law_519 : decode code 519 = .ok (.iadd, 1) := by decide +kernel
set_option maxRecDepth 100000 in
theorem d_law_520 : decode code 520 = .ok (.iaload, 1) := by decide +kernel
set_option maxRecDepth 100000 in
theorem d_law_521 : decode code 521 = .ok (.i2l, 1) := by decide +kernel
set_option maxRecDepth 100000 in
theorem d_law_522 : decode code 522 = .ok (.ldc2_w 31, 3) := by decide +kernel
set_option maxRecDepth 100000 in
theorem d_law_525 : decode code 525 = .ok (.land, 1) := by decide +kernel
set_option maxRecDepth 100000 in
theorem d_law_526 : decode code 526 = .ok (.lor, 1) := by decide +kernel
set_option maxRecDepth 100000 in
theorem d_law_527 : decode code 527 = .ok (.aload_n 0, 1) := by decide +kernel
set_option maxRecDepth 100000 in
theorem d_law_528 : decode code 528 = .ok (.iload_n 3, 1) := by decide +kernel
set_option maxRecDepth 100000 in
theorem d_law_529 : decode code 529 = .ok (.iconst 4, 1) := by decide +kernel
set_option maxRecDepth 100000 in
theorem d_law_530 : decode code 530 = .ok (.iadd, 1) := by decide +kernel
set_option maxRecDepth 100000 in
theorem d_law_531 : decode code 531 = .ok (.iaload, 1) := by decide +kernel
set_option maxRecDepth 100000 in
theorem d_law_532 : decode code 532 = .ok (.i2l, 1) := by decide +kernel
set_option maxRecDepth 100000 in
theorem d_law_533 : decode code 533 = .ok (.bipush 32, 2) := by decide +kernel
set_option maxRecDepth 100000 in
theorem d_law_535 : decode code 535 = .ok (.lshl, 1) := by decide +kernel
set_option maxRecDepth 100000 in
theorem d_law_536 : decode code 536 = .ok (.aload_n 0, 1) := by decide +kernel
set_option maxRecDepth 100000 in
theorem d_law_537 : decode code 537 = .ok (.iload_n 3, 1) := by decide +kernel
set_option maxRecDepth 100000 in
theorem d_law_538 : decode code 538 = .ok (.iconst 5, 1) := by decide +kernel
set_option maxRecDepth 100000 in
theorem d_law_539 : decode code 539 = .ok (.iadd, 1) := by decide +kernel
set_option maxRecDepth 100000 in
theorem d_law_540 : decode code 540 = .ok (.iaload, 1) := by decide +kernel
set_option maxRecDepth 100000 in
theorem d_law_541 : decode code 541 = .ok (.i2l, 1) := by decide +kernel
set_option maxRecDepth 100000 in
theorem d_law_542 : decode code 542 = .ok (.ldc2_w 31, 3) := by decide +kernel
set_option maxRecDepth 100000 in
theorem d_law_545 : decode code 545 = .ok (.land, 1) := by decide +kernel
set_option maxRecDepth 100000 in
theorem d_law_546 : decode code 546 = .ok (.lor, 1) := by decide +kernel
set_option maxRecDepth 100000 in
theorem d_law_547 : decode code 547 = .ok (.invokevirtual 51, 3) := by decide +kernel
set_option maxRecDepth 100000 in
theorem d_law_550 : decode code 550 = .ok (.aload_n 2, 1) := by decide +kernel
set_option maxRecDepth 100000 in
theorem d_law_551 : decode code 551 = .ok (.aload_n 0, 1) := by decide +kernel
set_option maxRecDepth 100000 in
theorem d_law_552 : decode code 552 = .ok (.iload_n 3, 1) := by decide +kernel
set_option maxRecDepth 100000 in
theorem d_law_553 : decode code 553 = .ok (.iconst 1, 1) := by decide +kernel
set_option maxRecDepth 100000 in
theorem d_law_554 : decode code 554 = .ok (.iadd, 1) := by decide +kernel
set_option maxRecDepth 100000 in
theorem d_law_555 : decode code 555 = .ok (.iaload, 1) := by decide +kernel
set_option maxRecDepth 100000 in
theorem d_law_556 : decode code 556 = .ok (.aload_n 0, 1) := by decide +kernel
set_option maxRecDepth 100000 in
theorem d_law_557 : decode code 557 = .ok (.iload_n 3, 1) := by decide +kernel
set_option maxRecDepth 100000 in
theorem d_law_558 : decode code 558 = .ok (.iconst 2, 1) := by decide +kernel
set_option maxRecDepth 100000 in
theorem d_law_559 : decode code 559 = .ok (.iadd, 1) := by decide +kernel
set_option maxRecDepth 100000 in
theorem d_law_560 : decode code 560 = .ok (.iaload, 1) := by decide +kernel
set_option maxRecDepth 100000 in
theorem d_law_561 : decode code 561 = .ok (.i2l, 1) := by decide +kernel
set_option maxRecDepth 100000 in
theorem d_law_562 : decode code 562 = .ok (.bipush 32, 2) := by decide +kernel
set_option maxRecDepth 100000 in
theorem d_law_564 : decode code 564 = .ok (.lshl, 1) := by decide +kernel
set_option maxRecDepth 100000 in
theorem d_law_565 : decode code 565 = .ok (.aload_n 0, 1) := by decide +kernel
set_option maxRecDepth 100000 in
theorem d_law_566 : decode code 566 = .ok (.iload_n 3, 1) := by decide +kernel
set_option maxRecDepth 100000 in
theorem d_law_567 : decode code 567 = .ok (.iconst 3, 1) := by decide +kernel
set_option maxRecDepth 100000 in
theorem d_law_568 : decode code 568 = .ok (.iadd, 1) := by decide +kernel
set_option maxRecDepth 100000 in
theorem d_law_569 : decode code 569 = .ok (.iaload, 1) := by decide +kernel
set_option maxRecDepth 100000 in
theorem d_law_570 : decode code 570 = .ok (.i2l, 1) := by decide +kernel
set_option maxRecDepth 100000 in
theorem d_law_571 : decode code 571 = .ok (.ldc2_w 31, 3) := by decide +kernel
set_option maxRecDepth 100000 in
theorem d_law_574 : decode code 574 = .ok (.land, 1) := by decide +kernel
set_option maxRecDepth 100000 in
theorem d_law_575 : decode code 575 = .ok (.lor, 1) := by decide +kernel
set_option maxRecDepth 100000 in
theorem d_law_576 : decode code 576 = .ok (.aload_n 0, 1) := by decide +kernel
set_option maxRecDepth 100000 in
theorem d_law_577 : decode code 577 = .ok (.iload_n 3, 1) := by decide +kernel
set_option maxRecDepth 100000 in
theorem d_law_578 : decode code 578 = .ok (.iconst 4, 1) := by decide +kernel
set_option maxRecDepth 100000 in
theorem d_law_579 : decode code 579 = .ok (.iadd, 1) := by decide +kernel
set_option maxRecDepth 100000 in
theorem d_law_580 : decode code 580 = .ok (.iaload, 1) := by decide +kernel
set_option maxRecDepth 100000 in
theorem d_law_581 : decode code 581 = .ok (.i2l, 1) := by decide +kernel
set_option maxRecDepth 100000 in
theorem d_law_582 : decode code 582 = .ok (.bipush 32, 2) := by decide +kernel
set_option maxRecDepth 100000 in
theorem d_law_584 : decode code 584 = .ok (.lshl, 1) := by decide +kernel
set_option maxRecDepth 100000 in
theorem d_law_585 : decode code 585 = .ok (.aload_n 0, 1) := by decide +kernel
set_option maxRecDepth 100000 in
theorem d_law_586 : decode code 586 = .ok (.iload_n 3, 1) := by decide +kernel
set_option maxRecDepth 100000 in
theorem d_law_587 : decode code 587 = .ok (.iconst 5, 1) := by decide +kernel
set_option maxRecDepth 100000 in
theorem d_law_588 : decode code 588 = .ok (.iadd, 1) := by decide +kernel
set_option maxRecDepth 100000 in
theorem d_law_589 : decode code 589 = .ok (.iaload, 1) := by decide +kernel
set_option maxRecDepth 100000 in
theorem d_law_590 : decode code 590 = .ok (.i2l, 1) := by decide +kernel
set_option maxRecDepth 100000 in
theorem d_law_591 : decode code 591 = .ok (.ldc2_w 31, 3) := by decide +kernel
set_option maxRecDepth 100000 in
theorem d_law_594 : decode code 594 = .ok (.land, 1) := by decide +kernel
set_option maxRecDepth 100000 in
theorem d_law_595 : decode code 595 = .ok (.lor, 1) := by decide +kernel
set_option maxRecDepth 100000 in
theorem d_law_596 : decode code 596 = .ok (.invokevirtual 55, 3) := by decide +kernel
set_option maxRecDepth 100000 in
theorem d_law_599 : decode code 599 = .ok (.if_icmp .eq (269), 3) := by decide +kernel
set_option maxRecDepth 100000 in
theorem d_law_602 : decode code 602 = .ok (.iconst 0, 1) := by decide +kernel
set_option maxRecDepth 100000 in
theorem d_law_603 : decode code 603 = .ok (.ireturn, 1) := by decide +kernel
set_option maxRecDepth 100000 in
theorem d_law_604 : decode code 604 = .ok (.aload_n 1, 1) := by decide +kernel
set_option maxRecDepth 100000 in
theorem d_law_605 : decode code 605 = .ok (.aload_n 0, 1) := by decide +kernel
set_option maxRecDepth 100000 in
theorem d_law_606 : decode code 606 = .ok (.iload_n 3, 1) := by decide +kernel
set_option maxRecDepth 100000 in
theorem d_law_607 : decode code 607 = .ok (.iconst 1, 1) := by decide +kernel
set_option maxRecDepth 100000 in
theorem d_law_608 : decode code 608 = .ok (.iadd, 1) := by decide +kernel
set_option maxRecDepth 100000 in
theorem d_law_609 : decode code 609 = .ok (.iaload, 1) := by decide +kernel
set_option maxRecDepth 100000 in
theorem d_law_610 : decode code 610 = .ok (.aload_n 0, 1) := by decide +kernel
set_option maxRecDepth 100000 in
theorem d_law_611 : decode code 611 = .ok (.iload_n 3, 1) := by decide +kernel
set_option maxRecDepth 100000 in
theorem d_law_612 : decode code 612 = .ok (.iconst 2, 1) := by decide +kernel
set_option maxRecDepth 100000 in
theorem d_law_613 : decode code 613 = .ok (.iadd, 1) := by decide +kernel
set_option maxRecDepth 100000 in
theorem d_law_614 : decode code 614 = .ok (.iaload, 1) := by decide +kernel
set_option maxRecDepth 100000 in
theorem d_law_615 : decode code 615 = .ok (.invokevirtual 56, 3) := by decide +kernel
set_option maxRecDepth 100000 in
theorem d_law_618 : decode code 618 = .ok (.aload_n 2, 1) := by decide +kernel
set_option maxRecDepth 100000 in
theorem d_law_619 : decode code 619 = .ok (.aload_n 0, 1) := by decide +kernel
set_option maxRecDepth 100000 in
theorem d_law_620 : decode code 620 = .ok (.iload_n 3, 1) := by decide +kernel
set_option maxRecDepth 100000 in
theorem d_law_621 : decode code 621 = .ok (.iconst 1, 1) := by decide +kernel
set_option maxRecDepth 100000 in
theorem d_law_622 : decode code 622 = .ok (.iadd, 1) := by decide +kernel
set_option maxRecDepth 100000 in
theorem d_law_623 : decode code 623 = .ok (.iaload, 1) := by decide +kernel
set_option maxRecDepth 100000 in
theorem d_law_624 : decode code 624 = .ok (.aload_n 0, 1) := by decide +kernel
set_option maxRecDepth 100000 in
theorem d_law_625 : decode code 625 = .ok (.iload_n 3, 1) := by decide +kernel
set_option maxRecDepth 100000 in
theorem d_law_626 : decode code 626 = .ok (.iconst 2, 1) := by decide +kernel
set_option maxRecDepth 100000 in
theorem d_law_627 : decode code 627 = .ok (.iadd, 1) := by decide +kernel
set_option maxRecDepth 100000 in
theorem d_law_628 : decode code 628 = .ok (.iaload, 1) := by decide +kernel
set_option maxRecDepth 100000 in
theorem d_law_629 : decode code 629 = .ok (.invokevirtual 60, 3) := by decide +kernel
set_option maxRecDepth 100000 in
theorem d_law_632 : decode code 632 = .ok (.lcmp, 1) := by decide +kernel
set_option maxRecDepth 100000 in
theorem d_law_633 : decode code 633 = .ok (.ifCond .eq (235), 3) := by decide +kernel
set_option maxRecDepth 100000 in
theorem d_law_636 : decode code 636 = .ok (.iconst 0, 1) := by decide +kernel
set_option maxRecDepth 100000 in
theorem d_law_637 : decode code 637 = .ok (.ireturn, 1) := by decide +kernel
set_option maxRecDepth 100000 in
theorem d_law_638 : decode code 638 = .ok (.aload_n 1, 1) := by decide +kernel
set_option maxRecDepth 100000 in
theorem d_law_639 : decode code 639 = .ok (.aload_n 0, 1) := by decide +kernel
set_option maxRecDepth 100000 in
theorem d_law_640 : decode code 640 = .ok (.iload_n 3, 1) := by decide +kernel
set_option maxRecDepth 100000 in
theorem d_law_641 : decode code 641 = .ok (.iconst 1, 1) := by decide +kernel
set_option maxRecDepth 100000 in
theorem d_law_642 : decode code 642 = .ok (.iadd, 1) := by decide +kernel
set_option maxRecDepth 100000 in
theorem d_law_643 : decode code 643 = .ok (.iaload, 1) := by decide +kernel
set_option maxRecDepth 100000 in
theorem d_law_644 : decode code 644 = .ok (.aload_n 0, 1) := by decide +kernel
set_option maxRecDepth 100000 in
theorem d_law_645 : decode code 645 = .ok (.iload_n 3, 1) := by decide +kernel
set_option maxRecDepth 100000 in
theorem d_law_646 : decode code 646 = .ok (.iconst 2, 1) := by decide +kernel
set_option maxRecDepth 100000 in
theorem d_law_647 : decode code 647 = .ok (.iadd, 1) := by decide +kernel
set_option maxRecDepth 100000 in
theorem d_law_648 : decode code 648 = .ok (.iaload, 1) := by decide +kernel
set_option maxRecDepth 100000 in
theorem d_law_649 : decode code 649 = .ok (.invokevirtual 61, 3) := by decide +kernel
set_option maxRecDepth 100000 in
theorem d_law_652 : decode code 652 = .ok (.aload_n 2, 1) := by decide +kernel
set_option maxRecDepth 100000 in
theorem d_law_653 : decode code 653 = .ok (.aload_n 0, 1) := by decide +kernel
set_option maxRecDepth 100000 in
theorem d_law_654 : decode code 654 = .ok (.iload_n 3, 1) := by decide +kernel
set_option maxRecDepth 100000 in
theorem d_law_655 : decode code 655 = .ok (.iconst 1, 1) := by decide +kernel
set_option maxRecDepth 100000 in
theorem d_law_656 : decode code 656 = .ok (.iadd, 1) := by decide +kernel
set_option maxRecDepth 100000 in
theorem d_law_657 : decode code 657 = .ok (.iaload, 1) := by decide +kernel
set_option maxRecDepth 100000 in
theorem d_law_658 : decode code 658 = .ok (.aload_n 0, 1) := by decide +kernel
set_option maxRecDepth 100000 in
theorem d_law_659 : decode code 659 = .ok (.iload_n 3, 1) := by decide +kernel
set_option maxRecDepth 100000 in
theorem d_law_660 : decode code 660 = .ok (.iconst 2, 1) := by decide +kernel
set_option maxRecDepth 100000 in
theorem d_law_661 : decode code 661 = .ok (.iadd, 1) := by decide +kernel
set_option maxRecDepth 100000 in
theorem d_law_662 : decode code 662 = .ok (.iaload, 1) := by decide +kernel
set_option maxRecDepth 100000 in
theorem d_law_663 : decode code 663 = .ok (.invokevirtual 64, 3) := by decide +kernel
set_option maxRecDepth 100000 in
theorem d_law_666 : decode code 666 = .ok (.lcmp, 1) := by decide +kernel
set_option maxRecDepth 100000 in
theorem d_law_667 : decode code 667 = .ok (.ifCond .eq (201), 3) := by decide +kernel
set_option maxRecDepth 100000 in
theorem d_law_670 : decode code 670 = .ok (.iconst 0, 1) := by decide +kernel
set_option maxRecDepth 100000 in
theorem d_law_671 : decode code 671 = .ok (.ireturn, 1) := by decide +kernel
set_option maxRecDepth 100000 in
theorem d_law_672 : decode code 672 = .ok (.aload_n 1, 1) := by decide +kernel
set_option maxRecDepth 100000 in
theorem d_law_673 : decode code 673 = .ok (.aload_n 0, 1) := by decide +kernel
set_option maxRecDepth 100000 in
theorem d_law_674 : decode code 674 = .ok (.iload_n 3, 1) := by decide +kernel
set_option maxRecDepth 100000 in
theorem d_law_675 : decode code 675 = .ok (.iconst 1, 1) := by decide +kernel
set_option maxRecDepth 100000 in
theorem d_law_676 : decode code 676 = .ok (.iadd, 1) := by decide +kernel
set_option maxRecDepth 100000 in
theorem d_law_677 : decode code 677 = .ok (.iaload, 1) := by decide +kernel
set_option maxRecDepth 100000 in
theorem d_law_678 : decode code 678 = .ok (.invokevirtual 65, 3) := by decide +kernel
set_option maxRecDepth 100000 in
theorem d_law_681 : decode code 681 = .ok (.aload_n 2, 1) := by decide +kernel
set_option maxRecDepth 100000 in
theorem d_law_682 : decode code 682 = .ok (.aload_n 0, 1) := by decide +kernel
set_option maxRecDepth 100000 in
theorem d_law_683 : decode code 683 = .ok (.iload_n 3, 1) := by decide +kernel
set_option maxRecDepth 100000 in
theorem d_law_684 : decode code 684 = .ok (.iconst 1, 1) := by decide +kernel
set_option maxRecDepth 100000 in
theorem d_law_685 : decode code 685 = .ok (.iadd, 1) := by decide +kernel
set_option maxRecDepth 100000 in
theorem d_law_686 : decode code 686 = .ok (.iaload, 1) := by decide +kernel
set_option maxRecDepth 100000 in
theorem d_law_687 : decode code 687 = .ok (.invokevirtual 69, 3) := by decide +kernel
set_option maxRecDepth 100000 in
theorem d_law_690 : decode code 690 = .ok (.lcmp, 1) := by decide +kernel
set_option maxRecDepth 100000 in
theorem d_law_691 : decode code 691 = .ok (.ifCond .eq (177), 3) := by decide +kernel
set_option maxRecDepth 100000 in
theorem d_law_694 : decode code 694 = .ok (.iconst 0, 1) := by decide +kernel
set_option maxRecDepth 100000 in
theorem d_law_695 : decode code 695 = .ok (.ireturn, 1) := by decide +kernel
set_option maxRecDepth 100000 in
theorem d_law_696 : decode code 696 = .ok (.aload_n 1, 1) := by decide +kernel
set_option maxRecDepth 100000 in
theorem d_law_697 : decode code 697 = .ok (.invokevirtual 70, 3) := by decide +kernel
set_option maxRecDepth 100000 in
theorem d_law_700 : decode code 700 = .ok (.aload_n 2, 1) := by decide +kernel
set_option maxRecDepth 100000 in
theorem d_law_701 : decode code 701 = .ok (.invokevirtual 73, 3) := by decide +kernel
set_option maxRecDepth 100000 in
theorem d_law_704 : decode code 704 = .ok (.if_icmp .eq (164), 3) := by decide +kernel
set_option maxRecDepth 100000 in
theorem d_law_707 : decode code 707 = .ok (.iconst 0, 1) := by decide +kernel
set_option maxRecDepth 100000 in
theorem d_law_708 : decode code 708 = .ok (.ireturn, 1) := by decide +kernel
set_option maxRecDepth 100000 in
theorem d_law_709 : decode code 709 = .ok (.aload_n 1, 1) := by decide +kernel
set_option maxRecDepth 100000 in
theorem d_law_710 : decode code 710 = .ok (.aload_n 0, 1) := by decide +kernel
set_option maxRecDepth 100000 in
theorem d_law_711 : decode code 711 = .ok (.iload_n 3, 1) := by decide +kernel
set_option maxRecDepth 100000 in
theorem d_law_712 : decode code 712 = .ok (.iconst 1, 1) := by decide +kernel
set_option maxRecDepth 100000 in
theorem d_law_713 : decode code 713 = .ok (.iadd, 1) := by decide +kernel
set_option maxRecDepth 100000 in
theorem d_law_714 : decode code 714 = .ok (.iaload, 1) := by decide +kernel
set_option maxRecDepth 100000 in
theorem d_law_715 : decode code 715 = .ok (.aload_n 0, 1) := by decide +kernel
set_option maxRecDepth 100000 in
theorem d_law_716 : decode code 716 = .ok (.iload_n 3, 1) := by decide +kernel
set_option maxRecDepth 100000 in
theorem d_law_717 : decode code 717 = .ok (.iconst 2, 1) := by decide +kernel
set_option maxRecDepth 100000 in
theorem d_law_718 : decode code 718 = .ok (.iadd, 1) := by decide +kernel
set_option maxRecDepth 100000 in
theorem d_law_719 : decode code 719 = .ok (.iaload, 1) := by decide +kernel
set_option maxRecDepth 100000 in
theorem d_law_720 : decode code 720 = .ok (.invokevirtual 74, 3) := by decide +kernel
set_option maxRecDepth 100000 in
theorem d_law_723 : decode code 723 = .ok (.aload_n 2, 1) := by decide +kernel
set_option maxRecDepth 100000 in
theorem d_law_724 : decode code 724 = .ok (.aload_n 0, 1) := by decide +kernel
set_option maxRecDepth 100000 in
theorem d_law_725 : decode code 725 = .ok (.iload_n 3, 1) := by decide +kernel
set_option maxRecDepth 100000 in
theorem d_law_726 : decode code 726 = .ok (.iconst 1, 1) := by decide +kernel
set_option maxRecDepth 100000 in
theorem d_law_727 : decode code 727 = .ok (.iadd, 1) := by decide +kernel
set_option maxRecDepth 100000 in
theorem d_law_728 : decode code 728 = .ok (.iaload, 1) := by decide +kernel
set_option maxRecDepth 100000 in
theorem d_law_729 : decode code 729 = .ok (.aload_n 0, 1) := by decide +kernel
set_option maxRecDepth 100000 in
theorem d_law_730 : decode code 730 = .ok (.iload_n 3, 1) := by decide +kernel
set_option maxRecDepth 100000 in
theorem d_law_731 : decode code 731 = .ok (.iconst 2, 1) := by decide +kernel
set_option maxRecDepth 100000 in
theorem d_law_732 : decode code 732 = .ok (.iadd, 1) := by decide +kernel
set_option maxRecDepth 100000 in
theorem d_law_733 : decode code 733 = .ok (.iaload, 1) := by decide +kernel
set_option maxRecDepth 100000 in
theorem d_law_734 : decode code 734 = .ok (.invokevirtual 77, 3) := by decide +kernel
set_option maxRecDepth 100000 in
theorem d_law_737 : decode code 737 = .ok (.if_icmp .eq (131), 3) := by decide +kernel
set_option maxRecDepth 100000 in
theorem d_law_740 : decode code 740 = .ok (.iconst 0, 1) := by decide +kernel
set_option maxRecDepth 100000 in
theorem d_law_741 : decode code 741 = .ok (.ireturn, 1) := by decide +kernel
set_option maxRecDepth 100000 in
theorem d_law_742 : decode code 742 = .ok (.aload_n 1, 1) := by decide +kernel
set_option maxRecDepth 100000 in
theorem d_law_743 : decode code 743 = .ok (.aload_n 0, 1) := by decide +kernel
set_option maxRecDepth 100000 in
theorem d_law_744 : decode code 744 = .ok (.iload_n 3, 1) := by decide +kernel
set_option maxRecDepth 100000 in
theorem d_law_745 : decode code 745 = .ok (.iconst 1, 1) := by decide +kernel
set_option maxRecDepth 100000 in
theorem d_law_746 : decode code 746 = .ok (.iadd, 1) := by decide +kernel
set_option maxRecDepth 100000 in
theorem d_law_747 : decode code 747 = .ok (.iaload, 1) := by decide +kernel
set_option maxRecDepth 100000 in
theorem d_law_748 : decode code 748 = .ok (.invokevirtual 78, 3) := by decide +kernel
set_option maxRecDepth 100000 in
theorem d_law_751 : decode code 751 = .ok (.aload_n 2, 1) := by decide +kernel
set_option maxRecDepth 100000 in
theorem d_law_752 : decode code 752 = .ok (.aload_n 0, 1) := by decide +kernel
set_option maxRecDepth 100000 in
theorem d_law_753 : decode code 753 = .ok (.iload_n 3, 1) := by decide +kernel
set_option maxRecDepth 100000 in
theorem d_law_754 : decode code 754 = .ok (.iconst 1, 1) := by decide +kernel
set_option maxRecDepth 100000 in
theorem d_law_755 : decode code 755 = .ok (.iadd, 1) := by decide +kernel
set_option maxRecDepth 100000 in
theorem d_law_756 : decode code 756 = .ok (.iaload, 1) := by decide +kernel
set_option maxRecDepth 100000 in
theorem d_law_757 : decode code 757 = .ok (.invokevirtual 82, 3) := by decide +kernel
set_option maxRecDepth 100000 in
theorem d_law_760 : decode code 760 = .ok (.if_icmp .eq (108), 3) := by decide +kernel
set_option maxRecDepth 100000 in
theorem d_law_763 : decode code 763 = .ok (.iconst 0, 1) := by decide +kernel
set_option maxRecDepth 100000 in
theorem d_law_764 : decode code 764 = .ok (.ireturn, 1) := by decide +kernel
set_option maxRecDepth 100000 in
theorem d_law_765 : decode code 765 = .ok (.aload_n 1, 1) := by decide +kernel
set_option maxRecDepth 100000 in
theorem d_law_766 : decode code 766 = .ok (.aload_n 0, 1) := by decide +kernel
set_option maxRecDepth 100000 in
theorem d_law_767 : decode code 767 = .ok (.iload_n 3, 1) := by decide +kernel
set_option maxRecDepth 100000 in
theorem d_law_768 : decode code 768 = .ok (.iconst 1, 1) := by decide +kernel
set_option maxRecDepth 100000 in
theorem d_law_769 : decode code 769 = .ok (.iadd, 1) := by decide +kernel
set_option maxRecDepth 100000 in
theorem d_law_770 : decode code 770 = .ok (.iaload, 1) := by decide +kernel
set_option maxRecDepth 100000 in
theorem d_law_771 : decode code 771 = .ok (.invokevirtual 83, 3) := by decide +kernel
set_option maxRecDepth 100000 in
theorem d_law_774 : decode code 774 = .ok (.aload_n 2, 1) := by decide +kernel
set_option maxRecDepth 100000 in
theorem d_law_775 : decode code 775 = .ok (.aload_n 0, 1) := by decide +kernel
set_option maxRecDepth 100000 in
theorem d_law_776 : decode code 776 = .ok (.iload_n 3, 1) := by decide +kernel
set_option maxRecDepth 100000 in
theorem d_law_777 : decode code 777 = .ok (.iconst 1, 1) := by decide +kernel
set_option maxRecDepth 100000 in
theorem d_law_778 : decode code 778 = .ok (.iadd, 1) := by decide +kernel
set_option maxRecDepth 100000 in
theorem d_law_779 : decode code 779 = .ok (.iaload, 1) := by decide +kernel
set_option maxRecDepth 100000 in
theorem d_law_780 : decode code 780 = .ok (.invokevirtual 86, 3) := by decide +kernel
set_option maxRecDepth 100000 in
theorem d_law_783 : decode code 783 = .ok (.if_icmp .eq (85), 3) := by decide +kernel
set_option maxRecDepth 100000 in
theorem d_law_786 : decode code 786 = .ok (.iconst 0, 1) := by decide +kernel
set_option maxRecDepth 100000 in
theorem d_law_787 : decode code 787 = .ok (.ireturn, 1) := by decide +kernel
set_option maxRecDepth 100000 in
theorem d_law_788 : decode code 788 = .ok (.aload_n 1, 1) := by decide +kernel
set_option maxRecDepth 100000 in
theorem d_law_789 : decode code 789 = .ok (.aload_n 0, 1) := by decide +kernel
set_option maxRecDepth 100000 in
theorem d_law_790 : decode code 790 = .ok (.iload_n 3, 1) := by decide +kernel
set_option maxRecDepth 100000 in
theorem d_law_791 : decode code 791 = .ok (.iconst 1, 1) := by decide +kernel
set_option maxRecDepth 100000 in
theorem d_law_792 : decode code 792 = .ok (.iadd, 1) := by decide +kernel
set_option maxRecDepth 100000 in
theorem d_law_793 : decode code 793 = .ok (.iaload, 1) := by decide +kernel
set_option maxRecDepth 100000 in
theorem d_law_794 : decode code 794 = .ok (.aload_n 0, 1) := by decide +kernel
set_option maxRecDepth 100000 in
theorem d_law_795 : decode code 795 = .ok (.iload_n 3, 1) := by decide +kernel
set_option maxRecDepth 100000 in
theorem d_law_796 : decode code 796 = .ok (.iconst 2, 1) := by decide +kernel
set_option maxRecDepth 100000 in
theorem d_law_797 : decode code 797 = .ok (.iadd, 1) := by decide +kernel
set_option maxRecDepth 100000 in
theorem d_law_798 : decode code 798 = .ok (.iaload, 1) := by decide +kernel
set_option maxRecDepth 100000 in
theorem d_law_799 : decode code 799 = .ok (.aload_n 0, 1) := by decide +kernel
set_option maxRecDepth 100000 in
theorem d_law_800 : decode code 800 = .ok (.iload_n 3, 1) := by decide +kernel
set_option maxRecDepth 100000 in
theorem d_law_801 : decode code 801 = .ok (.iconst 3, 1) := by decide +kernel
set_option maxRecDepth 100000 in
theorem d_law_802 : decode code 802 = .ok (.iadd, 1) := by decide +kernel
set_option maxRecDepth 100000 in
theorem d_law_803 : decode code 803 = .ok (.iaload, 1) := by decide +kernel
set_option maxRecDepth 100000 in
theorem d_law_804 : decode code 804 = .ok (.invokevirtual 87, 3) := by decide +kernel
set_option maxRecDepth 100000 in
theorem d_law_807 : decode code 807 = .ok (.aload_n 2, 1) := by decide +kernel
set_option maxRecDepth 100000 in
theorem d_law_808 : decode code 808 = .ok (.aload_n 0, 1) := by decide +kernel
set_option maxRecDepth 100000 in
theorem d_law_809 : decode code 809 = .ok (.iload_n 3, 1) := by decide +kernel
set_option maxRecDepth 100000 in
theorem d_law_810 : decode code 810 = .ok (.iconst 1, 1) := by decide +kernel
set_option maxRecDepth 100000 in
theorem d_law_811 : decode code 811 = .ok (.iadd, 1) := by decide +kernel
set_option maxRecDepth 100000 in
theorem d_law_812 : decode code 812 = .ok (.iaload, 1) := by decide +kernel
set_option maxRecDepth 100000 in
theorem d_law_813 : decode code 813 = .ok (.aload_n 0, 1) := by decide +kernel
set_option maxRecDepth 100000 in
theorem d_law_814 : decode code 814 = .ok (.iload_n 3, 1) := by decide +kernel
set_option maxRecDepth 100000 in
theorem d_law_815 : decode code 815 = .ok (.iconst 2, 1) := by decide +kernel
set_option maxRecDepth 100000 in
theorem d_law_816 : decode code 816 = .ok (.iadd, 1) := by decide +kernel
set_option maxRecDepth 100000 in
theorem d_law_817 : decode code 817 = .ok (.iaload, 1) := by decide +kernel
set_option maxRecDepth 100000 in
theorem d_law_818 : decode code 818 = .ok (.aload_n 0, 1) := by decide +kernel
set_option maxRecDepth 100000 in
theorem d_law_819 : decode code 819 = .ok (.iload_n 3, 1) := by decide +kernel
set_option maxRecDepth 100000 in
theorem d_law_820 : decode code 820 = .ok (.iconst 3, 1) := by decide +kernel
set_option maxRecDepth 100000 in
theorem d_law_821 : decode code 821 = .ok (.iadd, 1) := by decide +kernel
set_option maxRecDepth 100000 in
theorem d_law_822 : decode code 822 = .ok (.iaload, 1) := by decide +kernel
set_option maxRecDepth 100000 in
theorem d_law_823 : decode code 823 = .ok (.invokevirtual 91, 3) := by decide +kernel
set_option maxRecDepth 100000 in
theorem d_law_826 : decode code 826 = .ok (.lcmp, 1) := by decide +kernel
set_option maxRecDepth 100000 in
theorem d_law_827 : decode code 827 = .ok (.ifCond .eq (41), 3) := by decide +kernel
set_option maxRecDepth 100000 in
theorem d_law_830 : decode code 830 = .ok (.iconst 0, 1) := by decide +kernel
set_option maxRecDepth 100000 in
theorem d_law_831 : decode code 831 = .ok (.ireturn, 1) := by decide +kernel
set_option maxRecDepth 100000 in
theorem d_law_832 : decode code 832 = .ok (.aload_n 1, 1) := by decide +kernel
set_option maxRecDepth 100000 in
theorem d_law_833 : decode code 833 = .ok (.aload_n 0, 1) := by decide +kernel
set_option maxRecDepth 100000 in
theorem d_law_834 : decode code 834 = .ok (.iload_n 3, 1) := by decide +kernel
set_option maxRecDepth 100000 in
theorem d_law_835 : decode code 835 = .ok (.iconst 1, 1) := by decide +kernel
set_option maxRecDepth 100000 in
theorem d_law_836 : decode code 836 = .ok (.iadd, 1) := by decide +kernel
set_option maxRecDepth 100000 in
theorem d_law_837 : decode code 837 = .ok (.iaload, 1) := by decide +kernel
set_option maxRecDepth 100000 in
theorem d_law_838 : decode code 838 = .ok (.invokevirtual 92, 3) := by decide +kernel
set_option maxRecDepth 100000 in
theorem d_law_841 : decode code 841 = .ok (.aload_n 2, 1) := by decide +kernel
set_option maxRecDepth 100000 in
theorem d_law_842 : decode code 842 = .ok (.aload_n 0, 1) := by decide +kernel
set_option maxRecDepth 100000 in
theorem d_law_843 : decode code 843 = .ok (.iload_n 3, 1) := by decide +kernel
set_option maxRecDepth 100000 in
theorem d_law_844 : decode code 844 = .ok (.iconst 1, 1) := by decide +kernel
set_option maxRecDepth 100000 in
theorem d_law_845 : decode code 845 = .ok (.iadd, 1) := by decide +kernel
set_option maxRecDepth 100000 in
theorem d_law_846 : decode code 846 = .ok (.iaload, 1) := by decide +kernel
set_option maxRecDepth 100000 in
theorem d_law_847 : decode code 847 = .ok (.invokevirtual 95, 3) := by decide +kernel
set_option maxRecDepth 100000 in
theorem d_law_850 : decode code 850 = .ok (.if_icmp .eq (18), 3) := by decide +kernel
set_option maxRecDepth 100000 in
theorem d_law_853 : decode code 853 = .ok (.iconst 0, 1) := by decide +kernel
set_option maxRecDepth 100000 in
theorem d_law_854 : decode code 854 = .ok (.ireturn, 1) := by decide +kernel
set_option maxRecDepth 100000 in
theorem d_law_855 : decode code 855 = .ok (.aload_n 1, 1) := by decide +kernel
set_option maxRecDepth 100000 in
theorem d_law_856 : decode code 856 = .ok (.invokevirtual 96, 3) := by decide +kernel
set_option maxRecDepth 100000 in
theorem d_law_859 : decode code 859 = .ok (.aload_n 2, 1) := by decide +kernel
set_option maxRecDepth 100000 in
theorem d_law_860 : decode code 860 = .ok (.invokevirtual 99, 3) := by decide +kernel
set_option maxRecDepth 100000 in
theorem d_law_863 : decode code 863 = .ok (.if_icmp .eq (5), 3) := by decide +kernel
set_option maxRecDepth 100000 in
theorem d_law_866 : decode code 866 = .ok (.iconst 0, 1) := by decide +kernel
set_option maxRecDepth 100000 in
theorem d_law_867 : decode code 867 = .ok (.ireturn, 1) := by decide +kernel
set_option maxRecDepth 100000 in
theorem d_law_868 : decode code 868 = .ok (.iinc 3 7, 3) := by decide +kernel
set_option maxRecDepth 100000 in
theorem d_law_871 : decode code 871 = .ok (.goto (-853), 3) := by decide +kernel
set_option maxRecDepth 100000 in
theorem d_law_874 : decode code 874 = .ok (.iconst 1, 1) := by decide +kernel
set_option maxRecDepth 100000 in
theorem d_law_875 : decode code 875 = .ok (.ireturn, 1) := by decide +kernel