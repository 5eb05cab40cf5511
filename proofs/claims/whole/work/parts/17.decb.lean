theorem dX11_bits_2 : decode cX11_bits 2 = .ok (.iconst 0, 1) := by decide +kernel
theorem dX11_bits_3 : decode cX11_bits 3 = .ok (.istore_n 2, 1) := by decide +kernel
theorem dX11_bits_4 : decode cX11_bits 4 = .ok (.iload_n 2, 1) := by decide +kernel
theorem dX11_bits_5 : decode cX11_bits 5 = .ok (.bipush 16, 2) := by decide +kernel
theorem dX11_bits_7 : decode cX11_bits 7 = .ok (.if_icmp .ge 17, 3) := by decide +kernel
theorem dX11_bits_10 : decode cX11_bits 10 = .ok (.iload_n 1, 1) := by decide +kernel
theorem dX11_bits_11 : decode cX11_bits 11 = .ok (.iload_n 0, 1) := by decide +kernel
theorem dX11_bits_12 : decode cX11_bits 12 = .ok (.iload_n 2, 1) := by decide +kernel
theorem dX11_bits_13 : decode cX11_bits 13 = .ok (.ishr, 1) := by decide +kernel
theorem dX11_bits_14 : decode cX11_bits 14 = .ok (.iconst 1, 1) := by decide +kernel
theorem dX11_bits_15 : decode cX11_bits 15 = .ok (.iand, 1) := by decide +kernel
theorem dX11_bits_16 : decode cX11_bits 16 = .ok (.iadd, 1) := by decide +kernel
theorem dX11_bits_17 : decode cX11_bits 17 = .ok (.istore_n 1, 1) := by decide +kernel
theorem dX11_bits_18 : decode cX11_bits 18 = .ok (.iinc 2 1, 3) := by decide +kernel
theorem dX11_bits_21 : decode cX11_bits 21 = .ok (.goto (-17), 3) := by decide +kernel
theorem dX11_bits_24 : decode cX11_bits 24 = .ok (.iload_n 1, 1) := by decide +kernel
theorem dX11_bits_25 : decode cX11_bits 25 = .ok (.ireturn, 1) := by decide +kernel
theorem dX11_ofMail_0 : decode cX11_ofMail 0 = .ok (.iload_n 1, 1) := by decide +kernel
theorem dX11_ofMail_1 : decode cX11_ofMail 1 = .ok (.lookupswitch 170 #[(98, 115), (100, 151), (102, 59), (115, 95), (116, 75), (122, 135)], 59) := by decide +kernel
theorem dX11_ofMail_60 : decode cX11_ofMail 60 = .ok (.aload_n 0, 1) := by decide +kernel
theorem dX11_ofMail_61 : decode cX11_ofMail 61 = .ok (.getfield 7, 3) := by decide +kernel
theorem dX11_ofMail_64 : decode cX11_ofMail 64 = .ok (.iload_n 3, 1) := by decide +kernel
theorem dX11_ofMail_65 : decode cX11_ofMail 65 = .ok (.iaload, 1) := by decide +kernel
theorem dX11_ofMail_66 : decode cX11_ofMail 66 = .ok (.iload_n 2, 1) := by decide +kernel
theorem dX11_ofMail_67 : decode cX11_ofMail 67 = .ok (.if_icmp .ne 7, 3) := by decide +kernel
theorem dX11_ofMail_70 : decode cX11_ofMail 70 = .ok (.iconst 1, 1) := by decide +kernel
theorem dX11_ofMail_71 : decode cX11_ofMail 71 = .ok (.goto 4, 3) := by decide +kernel
theorem dX11_ofMail_74 : decode cX11_ofMail 74 = .ok (.iconst 0, 1) := by decide +kernel
theorem dX11_ofMail_75 : decode cX11_ofMail 75 = .ok (.ireturn, 1) := by decide +kernel
theorem dX11_ofMail_76 : decode cX11_ofMail 76 = .ok (.aload_n 0, 1) := by decide +kernel
theorem dX11_ofMail_77 : decode cX11_ofMail 77 = .ok (.getfield 13, 3) := by decide +kernel
theorem dX11_ofMail_80 : decode cX11_ofMail 80 = .ok (.iload_n 3, 1) := by decide +kernel
theorem dX11_ofMail_81 : decode cX11_ofMail 81 = .ok (.iaload, 1) := by decide +kernel
theorem dX11_ofMail_82 : decode cX11_ofMail 82 = .ok (.iload_n 2, 1) := by decide +kernel
theorem dX11_ofMail_83 : decode cX11_ofMail 83 = .ok (.ishr, 1) := by decide +kernel
theorem dX11_ofMail_84 : decode cX11_ofMail 84 = .ok (.iconst 1, 1) := by decide +kernel
theorem dX11_ofMail_85 : decode cX11_ofMail 85 = .ok (.iand, 1) := by decide +kernel
theorem dX11_ofMail_86 : decode cX11_ofMail 86 = .ok (.iconst 1, 1) := by decide +kernel
theorem dX11_ofMail_87 : decode cX11_ofMail 87 = .ok (.if_icmp .ne 7, 3) := by decide +kernel
theorem dX11_ofMail_90 : decode cX11_ofMail 90 = .ok (.iconst 1, 1) := by decide +kernel
theorem dX11_ofMail_91 : decode cX11_ofMail 91 = .ok (.goto 4, 3) := by decide +kernel
theorem dX11_ofMail_94 : decode cX11_ofMail 94 = .ok (.iconst 0, 1) := by decide +kernel
theorem dX11_ofMail_95 : decode cX11_ofMail 95 = .ok (.ireturn, 1) := by decide +kernel
theorem dX11_ofMail_96 : decode cX11_ofMail 96 = .ok (.aload_n 0, 1) := by decide +kernel
theorem dX11_ofMail_97 : decode cX11_ofMail 97 = .ok (.getfield 16, 3) := by decide +kernel
theorem dX11_ofMail_100 : decode cX11_ofMail 100 = .ok (.iload_n 3, 1) := by decide +kernel
theorem dX11_ofMail_101 : decode cX11_ofMail 101 = .ok (.iaload, 1) := by decide +kernel
theorem dX11_ofMail_102 : decode cX11_ofMail 102 = .ok (.iload_n 2, 1) := by decide +kernel
theorem dX11_ofMail_103 : decode cX11_ofMail 103 = .ok (.ishr, 1) := by decide +kernel
theorem dX11_ofMail_104 : decode cX11_ofMail 104 = .ok (.iconst 1, 1) := by decide +kernel
theorem dX11_ofMail_105 : decode cX11_ofMail 105 = .ok (.iand, 1) := by decide +kernel
theorem dX11_ofMail_106 : decode cX11_ofMail 106 = .ok (.iconst 1, 1) := by decide +kernel
theorem dX11_ofMail_107 : decode cX11_ofMail 107 = .ok (.if_icmp .ne 7, 3) := by decide +kernel
theorem dX11_ofMail_110 : decode cX11_ofMail 110 = .ok (.iconst 1, 1) := by decide +kernel
theorem dX11_ofMail_111 : decode cX11_ofMail 111 = .ok (.goto 4, 3) := by decide +kernel
theorem dX11_ofMail_114 : decode cX11_ofMail 114 = .ok (.iconst 0, 1) := by decide +kernel
theorem dX11_ofMail_115 : decode cX11_ofMail 115 = .ok (.ireturn, 1) := by decide +kernel
theorem dX11_ofMail_116 : decode cX11_ofMail 116 = .ok (.aload_n 0, 1) := by decide +kernel
theorem dX11_ofMail_117 : decode cX11_ofMail 117 = .ok (.getfield 19, 3) := by decide +kernel
theorem dX11_ofMail_120 : decode cX11_ofMail 120 = .ok (.iload_n 3, 1) := by decide +kernel
theorem dX11_ofMail_121 : decode cX11_ofMail 121 = .ok (.iaload, 1) := by decide +kernel
theorem dX11_ofMail_122 : decode cX11_ofMail 122 = .ok (.iload_n 2, 1) := by decide +kernel
theorem dX11_ofMail_123 : decode cX11_ofMail 123 = .ok (.ishr, 1) := by decide +kernel
theorem dX11_ofMail_124 : decode cX11_ofMail 124 = .ok (.iconst 1, 1) := by decide +kernel
theorem dX11_ofMail_125 : decode cX11_ofMail 125 = .ok (.iand, 1) := by decide +kernel
theorem dX11_ofMail_126 : decode cX11_ofMail 126 = .ok (.iconst 1, 1) := by decide +kernel
theorem dX11_ofMail_127 : decode cX11_ofMail 127 = .ok (.if_icmp .ne 7, 3) := by decide +kernel
theorem dX11_ofMail_130 : decode cX11_ofMail 130 = .ok (.iconst 1, 1) := by decide +kernel
theorem dX11_ofMail_131 : decode cX11_ofMail 131 = .ok (.goto 4, 3) := by decide +kernel
theorem dX11_ofMail_134 : decode cX11_ofMail 134 = .ok (.iconst 0, 1) := by decide +kernel
theorem dX11_ofMail_135 : decode cX11_ofMail 135 = .ok (.ireturn, 1) := by decide +kernel
theorem dX11_ofMail_136 : decode cX11_ofMail 136 = .ok (.aload_n 0, 1) := by decide +kernel
theorem dX11_ofMail_137 : decode cX11_ofMail 137 = .ok (.getfield 22, 3) := by decide +kernel
theorem dX11_ofMail_140 : decode cX11_ofMail 140 = .ok (.iload_n 3, 1) := by decide +kernel
theorem dX11_ofMail_141 : decode cX11_ofMail 141 = .ok (.iaload, 1) := by decide +kernel
theorem dX11_ofMail_142 : decode cX11_ofMail 142 = .ok (.iload_n 2, 1) := by decide +kernel
theorem dX11_ofMail_143 : decode cX11_ofMail 143 = .ok (.if_icmp .le 7, 3) := by decide +kernel
theorem dX11_ofMail_146 : decode cX11_ofMail 146 = .ok (.iconst 1, 1) := by decide +kernel
theorem dX11_ofMail_147 : decode cX11_ofMail 147 = .ok (.goto 4, 3) := by decide +kernel
theorem dX11_ofMail_150 : decode cX11_ofMail 150 = .ok (.iconst 0, 1) := by decide +kernel
theorem dX11_ofMail_151 : decode cX11_ofMail 151 = .ok (.ireturn, 1) := by decide +kernel
theorem dX11_ofMail_152 : decode cX11_ofMail 152 = .ok (.aload_n 0, 1) := by decide +kernel
theorem dX11_ofMail_153 : decode cX11_ofMail 153 = .ok (.getfield 25, 3) := by decide +kernel
theorem dX11_ofMail_156 : decode cX11_ofMail 156 = .ok (.iload_n 3, 1) := by decide +kernel
theorem dX11_ofMail_157 : decode cX11_ofMail 157 = .ok (.iaload, 1) := by decide +kernel
theorem dX11_ofMail_158 : decode cX11_ofMail 158 = .ok (.bipush 7, 2) := by decide +kernel
theorem dX11_ofMail_160 : decode cX11_ofMail 160 = .ok (.irem, 1) := by decide +kernel
theorem dX11_ofMail_161 : decode cX11_ofMail 161 = .ok (.iload_n 2, 1) := by decide +kernel
theorem dX11_ofMail_162 : decode cX11_ofMail 162 = .ok (.if_icmp .ne 7, 3) := by decide +kernel
theorem dX11_ofMail_165 : decode cX11_ofMail 165 = .ok (.iconst 1, 1) := by decide +kernel
theorem dX11_ofMail_166 : decode cX11_ofMail 166 = .ok (.goto 4, 3) := by decide +kernel
theorem dX11_ofMail_169 : decode cX11_ofMail 169 = .ok (.iconst 0, 1) := by decide +kernel
theorem dX11_ofMail_170 : decode cX11_ofMail 170 = .ok (.ireturn, 1) := by decide +kernel
theorem dX11_ofMail_171 : decode cX11_ofMail 171 = .ok (.iload_n 1, 1) := by decide +kernel
theorem dX11_ofMail_172 : decode cX11_ofMail 172 = .ok (.bipush 110, 2) := by decide +kernel
theorem dX11_ofMail_174 : decode cX11_ofMail 174 = .ok (.if_icmp .ne 20, 3) := by decide +kernel
theorem dX11_ofMail_177 : decode cX11_ofMail 177 = .ok (.aload_n 0, 1) := by decide +kernel
theorem dX11_ofMail_178 : decode cX11_ofMail 178 = .ok (.getfield 13, 3) := by decide +kernel
theorem dX11_ofMail_181 : decode cX11_ofMail 181 = .ok (.iload_n 3, 1) := by decide +kernel
theorem dX11_ofMail_182 : decode cX11_ofMail 182 = .ok (.iaload, 1) := by decide +kernel
theorem dX11_ofMail_183 : decode cX11_ofMail 183 = .ok (.invokestatic 187, 3) := by decide +kernel
theorem dX11_ofMail_186 : decode cX11_ofMail 186 = .ok (.iload_n 2, 1) := by decide +kernel
theorem dX11_ofMail_187 : decode cX11_ofMail 187 = .ok (.if_icmp .lt 7, 3) := by decide +kernel
theorem dX11_ofMail_190 : decode cX11_ofMail 190 = .ok (.iconst 1, 1) := by decide +kernel
theorem dX11_ofMail_191 : decode cX11_ofMail 191 = .ok (.goto 4, 3) := by decide +kernel
theorem dX11_ofMail_194 : decode cX11_ofMail 194 = .ok (.iconst 0, 1) := by decide +kernel
theorem dX11_ofMail_195 : decode cX11_ofMail 195 = .ok (.ireturn, 1) := by decide +kernel
theorem dX11_holding_0 : decode cX11_holding 0 = .ok (.iconst 0, 1) := by decide +kernel
theorem dX11_holding_1 : decode cX11_holding 1 = .ok (.istore 4, 2) := by decide +kernel
theorem dX11_holding_3 : decode cX11_holding 3 = .ok (.iload 4, 2) := by decide +kernel
theorem dX11_holding_5 : decode cX11_holding 5 = .ok (.iload_n 1, 1) := by decide +kernel
theorem dX11_holding_6 : decode cX11_holding 6 = .ok (.if_icmp .gt 203, 3) := by decide +kernel
theorem dX11_holding_9 : decode cX11_holding 9 = .ok (.aload_n 0, 1) := by decide +kernel
theorem dX11_holding_10 : decode cX11_holding 10 = .ok (.getfield 59, 3) := by decide +kernel
theorem dX11_holding_13 : decode cX11_holding 13 = .ok (.iload 4, 2) := by decide +kernel
theorem dX11_holding_15 : decode cX11_holding 15 = .ok (.caload, 1) := by decide +kernel
theorem dX11_holding_16 : decode cX11_holding 16 = .ok (.istore 5, 2) := by decide +kernel
theorem dX11_holding_18 : decode cX11_holding 18 = .ok (.iload 5, 2) := by decide +kernel
theorem dX11_holding_20 : decode cX11_holding 20 = .ok (.bipush 97, 2) := by decide +kernel
theorem dX11_holding_22 : decode cX11_holding 22 = .ok (.if_icmp .eq 45, 3) := by decide +kernel
theorem dX11_holding_25 : decode cX11_holding 25 = .ok (.iload 5, 2) := by decide +kernel
theorem dX11_holding_27 : decode cX11_holding 27 = .ok (.bipush 107, 2) := by decide +kernel
theorem dX11_holding_29 : decode cX11_holding 29 = .ok (.if_icmp .ne 21, 3) := by decide +kernel
theorem dX11_holding_32 : decode cX11_holding 32 = .ok (.iload_n 3, 1) := by decide +kernel
theorem dX11_holding_33 : decode cX11_holding 33 = .ok (.aload_n 0, 1) := by decide +kernel
theorem dX11_holding_34 : decode cX11_holding 34 = .ok (.getfield 63, 3) := by decide +kernel
theorem dX11_holding_37 : decode cX11_holding 37 = .ok (.iload 4, 2) := by decide +kernel
theorem dX11_holding_39 : decode cX11_holding 39 = .ok (.iaload, 1) := by decide +kernel
theorem dX11_holding_40 : decode cX11_holding 40 = .ok (.ishr, 1) := by decide +kernel
theorem dX11_holding_41 : decode cX11_holding 41 = .ok (.iconst 1, 1) := by decide +kernel
theorem dX11_holding_42 : decode cX11_holding 42 = .ok (.iand, 1) := by decide +kernel
theorem dX11_holding_43 : decode cX11_holding 43 = .ok (.iconst 1, 1) := by decide +kernel
theorem dX11_holding_44 : decode cX11_holding 44 = .ok (.if_icmp .ne 27, 3) := by decide +kernel
theorem dX11_holding_47 : decode cX11_holding 47 = .ok (.goto 20, 3) := by decide +kernel
theorem dX11_holding_50 : decode cX11_holding 50 = .ok (.aload_n 0, 1) := by decide +kernel
theorem dX11_holding_51 : decode cX11_holding 51 = .ok (.iload 5, 2) := by decide +kernel
theorem dX11_holding_53 : decode cX11_holding 53 = .ok (.aload_n 0, 1) := by decide +kernel
theorem dX11_holding_54 : decode cX11_holding 54 = .ok (.getfield 63, 3) := by decide +kernel
theorem dX11_holding_57 : decode cX11_holding 57 = .ok (.iload 4, 2) := by decide +kernel
theorem dX11_holding_59 : decode cX11_holding 59 = .ok (.iaload, 1) := by decide +kernel
theorem dX11_holding_60 : decode cX11_holding 60 = .ok (.iload_n 2, 1) := by decide +kernel
theorem dX11_holding_61 : decode cX11_holding 61 = .ok (.invokevirtual 190, 3) := by decide +kernel
theorem dX11_holding_64 : decode cX11_holding 64 = .ok (.ifCond .eq 7, 3) := by decide +kernel
theorem dX11_holding_67 : decode cX11_holding 67 = .ok (.iconst 1, 1) := by decide +kernel
theorem dX11_holding_68 : decode cX11_holding 68 = .ok (.goto 4, 3) := by decide +kernel
theorem dX11_holding_71 : decode cX11_holding 71 = .ok (.iconst 0, 1) := by decide +kernel
theorem dX11_holding_72 : decode cX11_holding 72 = .ok (.istore 6, 2) := by decide +kernel
theorem dX11_holding_74 : decode cX11_holding 74 = .ok (.aload_n 0, 1) := by decide +kernel
theorem dX11_holding_75 : decode cX11_holding 75 = .ok (.getfield 69, 3) := by decide +kernel
theorem dX11_holding_78 : decode cX11_holding 78 = .ok (.iload 4, 2) := by decide +kernel
theorem dX11_holding_80 : decode cX11_holding 80 = .ok (.iload 5, 2) := by decide +kernel
theorem dX11_holding_82 : decode cX11_holding 82 = .ok (.bipush 33, 2) := by decide +kernel
theorem dX11_holding_84 : decode cX11_holding 84 = .ok (.if_icmp .ne 26, 3) := by decide +kernel
theorem dX11_holding_87 : decode cX11_holding 87 = .ok (.aload_n 0, 1) := by decide +kernel
theorem dX11_holding_88 : decode cX11_holding 88 = .ok (.getfield 69, 3) := by decide +kernel
theorem dX11_holding_91 : decode cX11_holding 91 = .ok (.aload_n 0, 1) := by decide +kernel
theorem dX11_holding_92 : decode cX11_holding 92 = .ok (.getfield 63, 3) := by decide +kernel
theorem dX11_holding_95 : decode cX11_holding 95 = .ok (.iload 4, 2) := by decide +kernel
theorem dX11_holding_97 : decode cX11_holding 97 = .ok (.iaload, 1) := by decide +kernel
theorem dX11_holding_98 : decode cX11_holding 98 = .ok (.baload, 1) := by decide +kernel
theorem dX11_holding_99 : decode cX11_holding 99 = .ok (.ifCond .ne 7, 3) := by decide +kernel
theorem dX11_holding_102 : decode cX11_holding 102 = .ok (.iconst 1, 1) := by decide +kernel
theorem dX11_holding_103 : decode cX11_holding 103 = .ok (.goto 99, 3) := by decide +kernel
theorem dX11_holding_106 : decode cX11_holding 106 = .ok (.iconst 0, 1) := by decide +kernel
theorem dX11_holding_107 : decode cX11_holding 107 = .ok (.goto 95, 3) := by decide +kernel
theorem dX11_holding_110 : decode cX11_holding 110 = .ok (.iload 5, 2) := by decide +kernel
theorem dX11_holding_112 : decode cX11_holding 112 = .ok (.bipush 38, 2) := by decide +kernel
theorem dX11_holding_114 : decode cX11_holding 114 = .ok (.if_icmp .ne 41, 3) := by decide +kernel
theorem dX11_holding_117 : decode cX11_holding 117 = .ok (.aload_n 0, 1) := by decide +kernel
theorem dX11_holding_118 : decode cX11_holding 118 = .ok (.getfield 69, 3) := by decide +kernel
theorem dX11_holding_121 : decode cX11_holding 121 = .ok (.aload_n 0, 1) := by decide +kernel
theorem dX11_holding_122 : decode cX11_holding 122 = .ok (.getfield 63, 3) := by decide +kernel
theorem dX11_holding_125 : decode cX11_holding 125 = .ok (.iload 4, 2) := by decide +kernel
theorem dX11_holding_127 : decode cX11_holding 127 = .ok (.iaload, 1) := by decide +kernel
theorem dX11_holding_128 : decode cX11_holding 128 = .ok (.baload, 1) := by decide +kernel
theorem dX11_holding_129 : decode cX11_holding 129 = .ok (.ifCond .eq 22, 3) := by decide +kernel
theorem dX11_holding_132 : decode cX11_holding 132 = .ok (.aload_n 0, 1) := by decide +kernel
theorem dX11_holding_133 : decode cX11_holding 133 = .ok (.getfield 69, 3) := by decide +kernel
theorem dX11_holding_136 : decode cX11_holding 136 = .ok (.aload_n 0, 1) := by decide +kernel
theorem dX11_holding_137 : decode cX11_holding 137 = .ok (.getfield 66, 3) := by decide +kernel
theorem dX11_holding_140 : decode cX11_holding 140 = .ok (.iload 4, 2) := by decide +kernel
theorem dX11_holding_142 : decode cX11_holding 142 = .ok (.iaload, 1) := by decide +kernel
theorem dX11_holding_143 : decode cX11_holding 143 = .ok (.baload, 1) := by decide +kernel
theorem dX11_holding_144 : decode cX11_holding 144 = .ok (.ifCond .eq 7, 3) := by decide +kernel
theorem dX11_holding_147 : decode cX11_holding 147 = .ok (.iconst 1, 1) := by decide +kernel
theorem dX11_holding_148 : decode cX11_holding 148 = .ok (.goto 54, 3) := by decide +kernel
theorem dX11_holding_151 : decode cX11_holding 151 = .ok (.iconst 0, 1) := by decide +kernel
theorem dX11_holding_152 : decode cX11_holding 152 = .ok (.goto 50, 3) := by decide +kernel
theorem dX11_holding_155 : decode cX11_holding 155 = .ok (.iload 5, 2) := by decide +kernel
theorem dX11_holding_157 : decode cX11_holding 157 = .ok (.bipush 124, 2) := by decide +kernel
theorem dX11_holding_159 : decode cX11_holding 159 = .ok (.if_icmp .ne 41, 3) := by decide +kernel
theorem dX11_holding_162 : decode cX11_holding 162 = .ok (.aload_n 0, 1) := by decide +kernel
theorem dX11_holding_163 : decode cX11_holding 163 = .ok (.getfield 69, 3) := by decide +kernel
theorem dX11_holding_166 : decode cX11_holding 166 = .ok (.aload_n 0, 1) := by decide +kernel
theorem dX11_holding_167 : decode cX11_holding 167 = .ok (.getfield 63, 3) := by decide +kernel
theorem dX11_holding_170 : decode cX11_holding 170 = .ok (.iload 4, 2) := by decide +kernel
theorem dX11_holding_172 : decode cX11_holding 172 = .ok (.iaload, 1) := by decide +kernel
theorem dX11_holding_173 : decode cX11_holding 173 = .ok (.baload, 1) := by decide +kernel
theorem dX11_holding_174 : decode cX11_holding 174 = .ok (.ifCond .ne 18, 3) := by decide +kernel
theorem dX11_holding_177 : decode cX11_holding 177 = .ok (.aload_n 0, 1) := by decide +kernel
theorem dX11_holding_178 : decode cX11_holding 178 = .ok (.getfield 69, 3) := by decide +kernel
theorem dX11_holding_181 : decode cX11_holding 181 = .ok (.aload_n 0, 1) := by decide +kernel
theorem dX11_holding_182 : decode cX11_holding 182 = .ok (.getfield 66, 3) := by decide +kernel
theorem dX11_holding_185 : decode cX11_holding 185 = .ok (.iload 4, 2) := by decide +kernel
theorem dX11_holding_187 : decode cX11_holding 187 = .ok (.iaload, 1) := by decide +kernel
theorem dX11_holding_188 : decode cX11_holding 188 = .ok (.baload, 1) := by decide +kernel
theorem dX11_holding_189 : decode cX11_holding 189 = .ok (.ifCond .eq 7, 3) := by decide +kernel
theorem dX11_holding_192 : decode cX11_holding 192 = .ok (.iconst 1, 1) := by decide +kernel
theorem dX11_holding_193 : decode cX11_holding 193 = .ok (.goto 9, 3) := by decide +kernel
theorem dX11_holding_196 : decode cX11_holding 196 = .ok (.iconst 0, 1) := by decide +kernel
theorem dX11_holding_197 : decode cX11_holding 197 = .ok (.goto 5, 3) := by decide +kernel
theorem dX11_holding_200 : decode cX11_holding 200 = .ok (.iload 6, 2) := by decide +kernel
theorem dX11_holding_202 : decode cX11_holding 202 = .ok (.bastore, 1) := by decide +kernel
theorem dX11_holding_203 : decode cX11_holding 203 = .ok (.iinc 4 1, 3) := by decide +kernel
theorem dX11_holding_206 : decode cX11_holding 206 = .ok (.goto (-203), 3) := by decide +kernel
theorem dX11_holding_209 : decode cX11_holding 209 = .ok (.aload_n 0, 1) := by decide +kernel
theorem dX11_holding_210 : decode cX11_holding 210 = .ok (.getfield 69, 3) := by decide +kernel
theorem dX11_holding_213 : decode cX11_holding 213 = .ok (.iload_n 1, 1) := by decide +kernel
theorem dX11_holding_214 : decode cX11_holding 214 = .ok (.baload, 1) := by decide +kernel
theorem dX11_holding_215 : decode cX11_holding 215 = .ok (.ireturn, 1) := by decide +kernel
theorem dX11_holds_0 : decode cX11_holds 0 = .ok (.aload_n 0, 1) := by decide +kernel
theorem dX11_holds_1 : decode cX11_holds 1 = .ok (.aload_n 0, 1) := by decide +kernel
theorem dX11_holds_2 : decode cX11_holds 2 = .ok (.iload_n 1, 1) := by decide +kernel
theorem dX11_holds_3 : decode cX11_holds 3 = .ok (.invokevirtual 180, 3) := by decide +kernel
theorem dX11_holds_6 : decode cX11_holds 6 = .ok (.ifCond .eq 15, 3) := by decide +kernel
theorem dX11_holds_9 : decode cX11_holds 9 = .ok (.aload_n 0, 1) := by decide +kernel
theorem dX11_holds_10 : decode cX11_holds 10 = .ok (.iload_n 2, 1) := by decide +kernel
theorem dX11_holds_11 : decode cX11_holds 11 = .ok (.invokevirtual 165, 3) := by decide +kernel
theorem dX11_holds_14 : decode cX11_holds 14 = .ok (.ifCond .eq 7, 3) := by decide +kernel
theorem dX11_holds_17 : decode cX11_holds 17 = .ok (.iconst 0, 1) := by decide +kernel
theorem dX11_holds_18 : decode cX11_holds 18 = .ok (.goto 4, 3) := by decide +kernel
theorem dX11_holds_21 : decode cX11_holds 21 = .ok (.iconst 1, 1) := by decide +kernel
theorem dX11_holds_22 : decode cX11_holds 22 = .ok (.putfield 138, 3) := by decide +kernel
theorem dX11_holds_25 : decode cX11_holds 25 = .ok (.aload_n 0, 1) := by decide +kernel
theorem dX11_holds_26 : decode cX11_holds 26 = .ok (.getfield 138, 3) := by decide +kernel
theorem dX11_holds_29 : decode cX11_holds 29 = .ok (.ifCond .ne 22, 3) := by decide +kernel
theorem dX11_holds_32 : decode cX11_holds 32 = .ok (.aload_n 0, 1) := by decide +kernel
theorem dX11_holds_33 : decode cX11_holds 33 = .ok (.iload_n 1, 1) := by decide +kernel
theorem dX11_holds_34 : decode cX11_holds 34 = .ok (.iload_n 2, 1) := by decide +kernel
theorem dX11_holds_35 : decode cX11_holds 35 = .ok (.aload_n 0, 1) := by decide +kernel
theorem dX11_holds_36 : decode cX11_holds 36 = .ok (.getfield 38, 3) := by decide +kernel
theorem dX11_holds_39 : decode cX11_holds 39 = .ok (.iload_n 2, 1) := by decide +kernel
theorem dX11_holds_40 : decode cX11_holds 40 = .ok (.iaload, 1) := by decide +kernel
theorem dX11_holds_41 : decode cX11_holds 41 = .ok (.invokevirtual 194, 3) := by decide +kernel
theorem dX11_holds_44 : decode cX11_holds 44 = .ok (.ifCond .eq 7, 3) := by decide +kernel
theorem dX11_holds_47 : decode cX11_holds 47 = .ok (.iconst 1, 1) := by decide +kernel
theorem dX11_holds_48 : decode cX11_holds 48 = .ok (.goto 4, 3) := by decide +kernel
theorem dX11_holds_51 : decode cX11_holds 51 = .ok (.iconst 0, 1) := by decide +kernel
theorem dX11_holds_52 : decode cX11_holds 52 = .ok (.ireturn, 1) := by decide +kernel
theorem dX11_rule_0 : decode cX11_rule 0 = .ok (.aload_n 0, 1) := by decide +kernel
theorem dX11_rule_1 : decode cX11_rule 1 = .ok (.iconst 0, 1) := by decide +kernel
theorem dX11_rule_2 : decode cX11_rule 2 = .ok (.putfield 138, 3) := by decide +kernel
theorem dX11_rule_5 : decode cX11_rule 5 = .ok (.iload_n 1, 1) := by decide +kernel
theorem dX11_rule_6 : decode cX11_rule 6 = .ok (.iconst 0, 1) := by decide +kernel
theorem dX11_rule_7 : decode cX11_rule 7 = .ok (.iconst 3, 1) := by decide +kernel
theorem dX11_rule_8 : decode cX11_rule 8 = .ok (.invokestatic 142, 3) := by decide +kernel
theorem dX11_rule_11 : decode cX11_rule 11 = .ok (.ifCond .eq 11, 3) := by decide +kernel
theorem dX11_rule_14 : decode cX11_rule 14 = .ok (.aload_n 0, 1) := by decide +kernel
theorem dX11_rule_15 : decode cX11_rule 15 = .ok (.iload_n 2, 1) := by decide +kernel
theorem dX11_rule_16 : decode cX11_rule 16 = .ok (.invokevirtual 180, 3) := by decide +kernel
theorem dX11_rule_19 : decode cX11_rule 19 = .ok (.ifCond .ne 9, 3) := by decide +kernel
theorem dX11_rule_22 : decode cX11_rule 22 = .ok (.aload_n 0, 1) := by decide +kernel
theorem dX11_rule_23 : decode cX11_rule 23 = .ok (.iconst 1, 1) := by decide +kernel
theorem dX11_rule_24 : decode cX11_rule 24 = .ok (.invokevirtual 147, 3) := by decide +kernel
theorem dX11_rule_27 : decode cX11_rule 27 = .ok (.ireturn, 1) := by decide +kernel
theorem dX11_rule_28 : decode cX11_rule 28 = .ok (.aload_n 0, 1) := by decide +kernel
theorem dX11_rule_29 : decode cX11_rule 29 = .ok (.getfield 72, 3) := by decide +kernel
theorem dX11_rule_32 : decode cX11_rule 32 = .ok (.iload_n 1, 1) := by decide +kernel
theorem dX11_rule_33 : decode cX11_rule 33 = .ok (.iaload, 1) := by decide +kernel
theorem dX11_rule_34 : decode cX11_rule 34 = .ok (.bipush 12, 2) := by decide +kernel
theorem dX11_rule_36 : decode cX11_rule 36 = .ok (.if_icmp .ne 9, 3) := by decide +kernel
theorem dX11_rule_39 : decode cX11_rule 39 = .ok (.aload_n 0, 1) := by decide +kernel
theorem dX11_rule_40 : decode cX11_rule 40 = .ok (.iconst 2, 1) := by decide +kernel
theorem dX11_rule_41 : decode cX11_rule 41 = .ok (.invokevirtual 147, 3) := by decide +kernel
theorem dX11_rule_44 : decode cX11_rule 44 = .ok (.ireturn, 1) := by decide +kernel
theorem dX11_rule_45 : decode cX11_rule 45 = .ok (.aload_n 0, 1) := by decide +kernel
theorem dX11_rule_46 : decode cX11_rule 46 = .ok (.getfield 75, 3) := by decide +kernel
theorem dX11_rule_49 : decode cX11_rule 49 = .ok (.bipush 12, 2) := by decide +kernel
theorem dX11_rule_51 : decode cX11_rule 51 = .ok (.iload_n 1, 1) := by decide +kernel
theorem dX11_rule_52 : decode cX11_rule 52 = .ok (.imul, 1) := by decide +kernel
theorem dX11_rule_53 : decode cX11_rule 53 = .ok (.aload_n 0, 1) := by decide +kernel
theorem dX11_rule_54 : decode cX11_rule 54 = .ok (.getfield 72, 3) := by decide +kernel
theorem dX11_rule_57 : decode cX11_rule 57 = .ok (.iload_n 1, 1) := by decide +kernel
theorem dX11_rule_58 : decode cX11_rule 58 = .ok (.iaload, 1) := by decide +kernel
theorem dX11_rule_59 : decode cX11_rule 59 = .ok (.iadd, 1) := by decide +kernel
theorem dX11_rule_60 : decode cX11_rule 60 = .ok (.iload_n 2, 1) := by decide +kernel
theorem dX11_rule_61 : decode cX11_rule 61 = .ok (.iastore, 1) := by decide +kernel
theorem dX11_rule_62 : decode cX11_rule 62 = .ok (.aload_n 0, 1) := by decide +kernel
theorem dX11_rule_63 : decode cX11_rule 63 = .ok (.getfield 78, 3) := by decide +kernel
theorem dX11_rule_66 : decode cX11_rule 66 = .ok (.bipush 12, 2) := by decide +kernel
theorem dX11_rule_68 : decode cX11_rule 68 = .ok (.iload_n 1, 1) := by decide +kernel
theorem dX11_rule_69 : decode cX11_rule 69 = .ok (.imul, 1) := by decide +kernel
theorem dX11_rule_70 : decode cX11_rule 70 = .ok (.aload_n 0, 1) := by decide +kernel
theorem dX11_rule_71 : decode cX11_rule 71 = .ok (.getfield 72, 3) := by decide +kernel
theorem dX11_rule_74 : decode cX11_rule 74 = .ok (.iload_n 1, 1) := by decide +kernel
theorem dX11_rule_75 : decode cX11_rule 75 = .ok (.iaload, 1) := by decide +kernel
theorem dX11_rule_76 : decode cX11_rule 76 = .ok (.iadd, 1) := by decide +kernel
theorem dX11_rule_77 : decode cX11_rule 77 = .ok (.iconst 0, 1) := by decide +kernel
theorem dX11_rule_78 : decode cX11_rule 78 = .ok (.iastore, 1) := by decide +kernel
theorem dX11_rule_79 : decode cX11_rule 79 = .ok (.aload_n 0, 1) := by decide +kernel
theorem dX11_rule_80 : decode cX11_rule 80 = .ok (.getfield 72, 3) := by decide +kernel
theorem dX11_rule_83 : decode cX11_rule 83 = .ok (.iload_n 1, 1) := by decide +kernel
theorem dX11_rule_84 : decode cX11_rule 84 = .ok (.dup2, 1) := by decide +kernel
theorem dX11_rule_85 : decode cX11_rule 85 = .ok (.iaload, 1) := by decide +kernel
theorem dX11_rule_86 : decode cX11_rule 86 = .ok (.iconst 1, 1) := by decide +kernel
theorem dX11_rule_87 : decode cX11_rule 87 = .ok (.iadd, 1) := by decide +kernel
theorem dX11_rule_88 : decode cX11_rule 88 = .ok (.iastore, 1) := by decide +kernel
theorem dX11_rule_89 : decode cX11_rule 89 = .ok (.aload_n 0, 1) := by decide +kernel
theorem dX11_rule_90 : decode cX11_rule 90 = .ok (.getfield 72, 3) := by decide +kernel
theorem dX11_rule_93 : decode cX11_rule 93 = .ok (.iload_n 1, 1) := by decide +kernel
theorem dX11_rule_94 : decode cX11_rule 94 = .ok (.iaload, 1) := by decide +kernel
theorem dX11_rule_95 : decode cX11_rule 95 = .ok (.iconst 1, 1) := by decide +kernel
theorem dX11_rule_96 : decode cX11_rule 96 = .ok (.isub, 1) := by decide +kernel
theorem dX11_rule_97 : decode cX11_rule 97 = .ok (.ireturn, 1) := by decide +kernel
theorem dX11_isRule_0 : decode cX11_isRule 0 = .ok (.iload_n 1, 1) := by decide +kernel
theorem dX11_isRule_1 : decode cX11_isRule 1 = .ok (.iconst 0, 1) := by decide +kernel
theorem dX11_isRule_2 : decode cX11_isRule 2 = .ok (.iconst 3, 1) := by decide +kernel
theorem dX11_isRule_3 : decode cX11_isRule 3 = .ok (.invokestatic 142, 3) := by decide +kernel
theorem dX11_isRule_6 : decode cX11_isRule 6 = .ok (.ifCond .eq 23, 3) := by decide +kernel
theorem dX11_isRule_9 : decode cX11_isRule 9 = .ok (.iload_n 2, 1) := by decide +kernel
theorem dX11_isRule_10 : decode cX11_isRule 10 = .ok (.iconst 0, 1) := by decide +kernel
theorem dX11_isRule_11 : decode cX11_isRule 11 = .ok (.aload_n 0, 1) := by decide +kernel
theorem dX11_isRule_12 : decode cX11_isRule 12 = .ok (.getfield 72, 3) := by decide +kernel
theorem dX11_isRule_15 : decode cX11_isRule 15 = .ok (.iload_n 1, 1) := by decide +kernel
theorem dX11_isRule_16 : decode cX11_isRule 16 = .ok (.iaload, 1) := by decide +kernel
theorem dX11_isRule_17 : decode cX11_isRule 17 = .ok (.iconst 1, 1) := by decide +kernel
theorem dX11_isRule_18 : decode cX11_isRule 18 = .ok (.isub, 1) := by decide +kernel
theorem dX11_isRule_19 : decode cX11_isRule 19 = .ok (.invokestatic 142, 3) := by decide +kernel
theorem dX11_isRule_22 : decode cX11_isRule 22 = .ok (.ifCond .eq 7, 3) := by decide +kernel
theorem dX11_isRule_25 : decode cX11_isRule 25 = .ok (.iconst 1, 1) := by decide +kernel
theorem dX11_isRule_26 : decode cX11_isRule 26 = .ok (.goto 4, 3) := by decide +kernel
theorem dX11_isRule_29 : decode cX11_isRule 29 = .ok (.iconst 0, 1) := by decide +kernel
theorem dX11_isRule_30 : decode cX11_isRule 30 = .ok (.ireturn, 1) := by decide +kernel
theorem dX11_isAction_0 : decode cX11_isAction 0 = .ok (.iload_n 0, 1) := by decide +kernel
theorem dX11_isAction_1 : decode cX11_isAction 1 = .ok (.lookupswitch 106 #[(70, 83), (85, 83), (99, 67), (105, 99), (109, 67), (118, 91), (119, 75)], 67) := by decide +kernel
theorem dX11_isAction_68 : decode cX11_isAction 68 = .ok (.iload_n 1, 1) := by decide +kernel
theorem dX11_isAction_69 : decode cX11_isAction 69 = .ok (.iconst 0, 1) := by decide +kernel
theorem dX11_isAction_70 : decode cX11_isAction 70 = .ok (.bipush 7, 2) := by decide +kernel
theorem dX11_isAction_72 : decode cX11_isAction 72 = .ok (.invokestatic 142, 3) := by decide +kernel
theorem dX11_isAction_75 : decode cX11_isAction 75 = .ok (.ireturn, 1) := by decide +kernel
theorem dX11_isAction_76 : decode cX11_isAction 76 = .ok (.iload_n 1, 1) := by decide +kernel
theorem dX11_isAction_77 : decode cX11_isAction 77 = .ok (.iconst 0, 1) := by decide +kernel
theorem dX11_isAction_78 : decode cX11_isAction 78 = .ok (.bipush 9, 2) := by decide +kernel
theorem dX11_isAction_80 : decode cX11_isAction 80 = .ok (.invokestatic 142, 3) := by decide +kernel
theorem dX11_isAction_83 : decode cX11_isAction 83 = .ok (.ireturn, 1) := by decide +kernel
theorem dX11_isAction_84 : decode cX11_isAction 84 = .ok (.iload_n 1, 1) := by decide +kernel
theorem dX11_isAction_85 : decode cX11_isAction 85 = .ok (.iconst 0, 1) := by decide +kernel
theorem dX11_isAction_86 : decode cX11_isAction 86 = .ok (.bipush 7, 2) := by decide +kernel
theorem dX11_isAction_88 : decode cX11_isAction 88 = .ok (.invokestatic 142, 3) := by decide +kernel
theorem dX11_isAction_91 : decode cX11_isAction 91 = .ok (.ireturn, 1) := by decide +kernel
theorem dX11_isAction_92 : decode cX11_isAction 92 = .ok (.iload_n 1, 1) := by decide +kernel
theorem dX11_isAction_93 : decode cX11_isAction 93 = .ok (.iconst 1, 1) := by decide +kernel
theorem dX11_isAction_94 : decode cX11_isAction 94 = .ok (.bipush 30, 2) := by decide +kernel
theorem dX11_isAction_96 : decode cX11_isAction 96 = .ok (.invokestatic 142, 3) := by decide +kernel
theorem dX11_isAction_99 : decode cX11_isAction 99 = .ok (.ireturn, 1) := by decide +kernel
theorem dX11_isAction_100 : decode cX11_isAction 100 = .ok (.iload_n 1, 1) := by decide +kernel
theorem dX11_isAction_101 : decode cX11_isAction 101 = .ok (.iconst 0, 1) := by decide +kernel
theorem dX11_isAction_102 : decode cX11_isAction 102 = .ok (.iconst 3, 1) := by decide +kernel
theorem dX11_isAction_103 : decode cX11_isAction 103 = .ok (.invokestatic 142, 3) := by decide +kernel
theorem dX11_isAction_106 : decode cX11_isAction 106 = .ok (.ireturn, 1) := by decide +kernel
theorem dX11_isAction_107 : decode cX11_isAction 107 = .ok (.iload_n 0, 1) := by decide +kernel
theorem dX11_isAction_108 : decode cX11_isAction 108 = .ok (.bipush 107, 2) := by decide +kernel
theorem dX11_isAction_110 : decode cX11_isAction 110 = .ok (.if_icmp .eq 27, 3) := by decide +kernel
theorem dX11_isAction_113 : decode cX11_isAction 113 = .ok (.iload_n 0, 1) := by decide +kernel
theorem dX11_isAction_114 : decode cX11_isAction 114 = .ok (.bipush 120, 2) := by decide +kernel
theorem dX11_isAction_116 : decode cX11_isAction 116 = .ok (.if_icmp .eq 21, 3) := by decide +kernel
theorem dX11_isAction_119 : decode cX11_isAction 119 = .ok (.iload_n 0, 1) := by decide +kernel
theorem dX11_isAction_120 : decode cX11_isAction 120 = .ok (.bipush 114, 2) := by decide +kernel
theorem dX11_isAction_122 : decode cX11_isAction 122 = .ok (.if_icmp .eq 15, 3) := by decide +kernel
theorem dX11_isAction_125 : decode cX11_isAction 125 = .ok (.iload_n 0, 1) := by decide +kernel
theorem dX11_isAction_126 : decode cX11_isAction 126 = .ok (.bipush 115, 2) := by decide +kernel
theorem dX11_isAction_128 : decode cX11_isAction 128 = .ok (.if_icmp .eq 9, 3) := by decide +kernel
theorem dX11_isAction_131 : decode cX11_isAction 131 = .ok (.iload_n 0, 1) := by decide +kernel
theorem dX11_isAction_132 : decode cX11_isAction 132 = .ok (.bipush 83, 2) := by decide +kernel
theorem dX11_isAction_134 : decode cX11_isAction 134 = .ok (.if_icmp .ne 7, 3) := by decide +kernel
theorem dX11_isAction_137 : decode cX11_isAction 137 = .ok (.iconst 1, 1) := by decide +kernel
theorem dX11_isAction_138 : decode cX11_isAction 138 = .ok (.goto 4, 3) := by decide +kernel
theorem dX11_isAction_141 : decode cX11_isAction 141 = .ok (.iconst 0, 1) := by decide +kernel
theorem dX11_isAction_142 : decode cX11_isAction 142 = .ok (.ireturn, 1) := by decide +kernel
theorem dX11_action_0 : decode cX11_action 0 = .ok (.aload_n 0, 1) := by decide +kernel
theorem dX11_action_1 : decode cX11_action 1 = .ok (.iconst 0, 1) := by decide +kernel
theorem dX11_action_2 : decode cX11_action 2 = .ok (.putfield 138, 3) := by decide +kernel
theorem dX11_action_5 : decode cX11_action 5 = .ok (.aload_n 0, 1) := by decide +kernel
theorem dX11_action_6 : decode cX11_action 6 = .ok (.iload_n 1, 1) := by decide +kernel
theorem dX11_action_7 : decode cX11_action 7 = .ok (.iload_n 2, 1) := by decide +kernel
theorem dX11_action_8 : decode cX11_action 8 = .ok (.invokevirtual 197, 3) := by decide +kernel
theorem dX11_action_11 : decode cX11_action 11 = .ok (.ifCond .ne 9, 3) := by decide +kernel
theorem dX11_action_14 : decode cX11_action 14 = .ok (.aload_n 0, 1) := by decide +kernel
theorem dX11_action_15 : decode cX11_action 15 = .ok (.iconst 1, 1) := by decide +kernel
theorem dX11_action_16 : decode cX11_action 16 = .ok (.invokevirtual 147, 3) := by decide +kernel
theorem dX11_action_19 : decode cX11_action 19 = .ok (.ireturn, 1) := by decide +kernel
theorem dX11_action_20 : decode cX11_action 20 = .ok (.iload_n 3, 1) := by decide +kernel
theorem dX11_action_21 : decode cX11_action 21 = .ok (.iload 4, 2) := by decide +kernel
theorem dX11_action_23 : decode cX11_action 23 = .ok (.invokestatic 200, 3) := by decide +kernel
theorem dX11_action_26 : decode cX11_action 26 = .ok (.ifCond .ne 9, 3) := by decide +kernel
theorem dX11_action_29 : decode cX11_action 29 = .ok (.aload_n 0, 1) := by decide +kernel
theorem dX11_action_30 : decode cX11_action 30 = .ok (.iconst 2, 1) := by decide +kernel
theorem dX11_action_31 : decode cX11_action 31 = .ok (.invokevirtual 147, 3) := by decide +kernel
theorem dX11_action_34 : decode cX11_action 34 = .ok (.ireturn, 1) := by decide +kernel
theorem dX11_action_35 : decode cX11_action 35 = .ok (.bipush 12, 2) := by decide +kernel
theorem dX11_action_37 : decode cX11_action 37 = .ok (.iload_n 1, 1) := by decide +kernel
theorem dX11_action_38 : decode cX11_action 38 = .ok (.imul, 1) := by decide +kernel
theorem dX11_action_39 : decode cX11_action 39 = .ok (.iload_n 2, 1) := by decide +kernel
theorem dX11_action_40 : decode cX11_action 40 = .ok (.iadd, 1) := by decide +kernel
theorem dX11_action_41 : decode cX11_action 41 = .ok (.istore 5, 2) := by decide +kernel
theorem dX11_action_43 : decode cX11_action 43 = .ok (.aload_n 0, 1) := by decide +kernel
theorem dX11_action_44 : decode cX11_action 44 = .ok (.getfield 78, 3) := by decide +kernel
theorem dX11_action_47 : decode cX11_action 47 = .ok (.iload 5, 2) := by decide +kernel
theorem dX11_action_49 : decode cX11_action 49 = .ok (.iaload, 1) := by decide +kernel
theorem dX11_action_50 : decode cX11_action 50 = .ok (.iconst 5, 1) := by decide +kernel
theorem dX11_action_51 : decode cX11_action 51 = .ok (.if_icmp .ne 9, 3) := by decide +kernel
theorem dX11_action_54 : decode cX11_action 54 = .ok (.aload_n 0, 1) := by decide +kernel
theorem dX11_action_55 : decode cX11_action 55 = .ok (.iconst 3, 1) := by decide +kernel
theorem dX11_action_56 : decode cX11_action 56 = .ok (.invokevirtual 147, 3) := by decide +kernel
theorem dX11_action_59 : decode cX11_action 59 = .ok (.ireturn, 1) := by decide +kernel
theorem dX11_action_60 : decode cX11_action 60 = .ok (.aload_n 0, 1) := by decide +kernel
theorem dX11_action_61 : decode cX11_action 61 = .ok (.getfield 81, 3) := by decide +kernel
theorem dX11_action_64 : decode cX11_action 64 = .ok (.iconst 5, 1) := by decide +kernel
theorem dX11_action_65 : decode cX11_action 65 = .ok (.iload 5, 2) := by decide +kernel
theorem dX11_action_67 : decode cX11_action 67 = .ok (.imul, 1) := by decide +kernel
theorem dX11_action_68 : decode cX11_action 68 = .ok (.aload_n 0, 1) := by decide +kernel
theorem dX11_action_69 : decode cX11_action 69 = .ok (.getfield 78, 3) := by decide +kernel
theorem dX11_action_72 : decode cX11_action 72 = .ok (.iload 5, 2) := by decide +kernel
theorem dX11_action_74 : decode cX11_action 74 = .ok (.iaload, 1) := by decide +kernel
theorem dX11_action_75 : decode cX11_action 75 = .ok (.iadd, 1) := by decide +kernel
theorem dX11_action_76 : decode cX11_action 76 = .ok (.iload_n 3, 1) := by decide +kernel
theorem dX11_action_77 : decode cX11_action 77 = .ok (.castore, 1) := by decide +kernel
theorem dX11_action_78 : decode cX11_action 78 = .ok (.aload_n 0, 1) := by decide +kernel
theorem dX11_action_79 : decode cX11_action 79 = .ok (.getfield 84, 3) := by decide +kernel
theorem dX11_action_82 : decode cX11_action 82 = .ok (.iconst 5, 1) := by decide +kernel
theorem dX11_action_83 : decode cX11_action 83 = .ok (.iload 5, 2) := by decide +kernel
theorem dX11_action_85 : decode cX11_action 85 = .ok (.imul, 1) := by decide +kernel
theorem dX11_action_86 : decode cX11_action 86 = .ok (.aload_n 0, 1) := by decide +kernel
theorem dX11_action_87 : decode cX11_action 87 = .ok (.getfield 78, 3) := by decide +kernel
theorem dX11_action_90 : decode cX11_action 90 = .ok (.iload 5, 2) := by decide +kernel
theorem dX11_action_92 : decode cX11_action 92 = .ok (.iaload, 1) := by decide +kernel
theorem dX11_action_93 : decode cX11_action 93 = .ok (.iadd, 1) := by decide +kernel
theorem dX11_action_94 : decode cX11_action 94 = .ok (.iload 4, 2) := by decide +kernel
theorem dX11_action_96 : decode cX11_action 96 = .ok (.iastore, 1) := by decide +kernel
theorem dX11_action_97 : decode cX11_action 97 = .ok (.aload_n 0, 1) := by decide +kernel
theorem dX11_action_98 : decode cX11_action 98 = .ok (.getfield 78, 3) := by decide +kernel
theorem dX11_action_101 : decode cX11_action 101 = .ok (.iload 5, 2) := by decide +kernel
theorem dX11_action_103 : decode cX11_action 103 = .ok (.dup2, 1) := by decide +kernel
theorem dX11_action_104 : decode cX11_action 104 = .ok (.iaload, 1) := by decide +kernel
theorem dX11_action_105 : decode cX11_action 105 = .ok (.iconst 1, 1) := by decide +kernel
theorem dX11_action_106 : decode cX11_action 106 = .ok (.iadd, 1) := by decide +kernel
theorem dX11_action_107 : decode cX11_action 107 = .ok (.iastore, 1) := by decide +kernel
theorem dX11_action_108 : decode cX11_action 108 = .ok (.aload_n 0, 1) := by decide +kernel
theorem dX11_action_109 : decode cX11_action 109 = .ok (.getfield 78, 3) := by decide +kernel
theorem dX11_action_112 : decode cX11_action 112 = .ok (.iload 5, 2) := by decide +kernel
theorem dX11_action_114 : decode cX11_action 114 = .ok (.iaload, 1) := by decide +kernel
theorem dX11_action_115 : decode cX11_action 115 = .ok (.ireturn, 1) := by decide +kernel
theorem dX11_clear_0 : decode cX11_clear 0 = .ok (.aload_n 0, 1) := by decide +kernel
theorem dX11_clear_1 : decode cX11_clear 1 = .ok (.iconst 0, 1) := by decide +kernel
theorem dX11_clear_2 : decode cX11_clear 2 = .ok (.putfield 138, 3) := by decide +kernel
theorem dX11_clear_5 : decode cX11_clear 5 = .ok (.iload_n 1, 1) := by decide +kernel
theorem dX11_clear_6 : decode cX11_clear 6 = .ok (.iconst 0, 1) := by decide +kernel
theorem dX11_clear_7 : decode cX11_clear 7 = .ok (.iconst 3, 1) := by decide +kernel
theorem dX11_clear_8 : decode cX11_clear 8 = .ok (.invokestatic 142, 3) := by decide +kernel
theorem dX11_clear_11 : decode cX11_clear 11 = .ok (.ifCond .ne 9, 3) := by decide +kernel
theorem dX11_clear_14 : decode cX11_clear 14 = .ok (.aload_n 0, 1) := by decide +kernel
theorem dX11_clear_15 : decode cX11_clear 15 = .ok (.iconst 1, 1) := by decide +kernel
theorem dX11_clear_16 : decode cX11_clear 16 = .ok (.invokevirtual 147, 3) := by decide +kernel
theorem dX11_clear_19 : decode cX11_clear 19 = .ok (.ireturn, 1) := by decide +kernel
theorem dX11_clear_20 : decode cX11_clear 20 = .ok (.aload_n 0, 1) := by decide +kernel
theorem dX11_clear_21 : decode cX11_clear 21 = .ok (.getfield 72, 3) := by decide +kernel
theorem dX11_clear_24 : decode cX11_clear 24 = .ok (.iload_n 1, 1) := by decide +kernel
theorem dX11_clear_25 : decode cX11_clear 25 = .ok (.iaload, 1) := by decide +kernel
theorem dX11_clear_26 : decode cX11_clear 26 = .ok (.istore_n 2, 1) := by decide +kernel
theorem dX11_clear_27 : decode cX11_clear 27 = .ok (.aload_n 0, 1) := by decide +kernel
theorem dX11_clear_28 : decode cX11_clear 28 = .ok (.getfield 72, 3) := by decide +kernel
theorem dX11_clear_31 : decode cX11_clear 31 = .ok (.iload_n 1, 1) := by decide +kernel
theorem dX11_clear_32 : decode cX11_clear 32 = .ok (.iconst 0, 1) := by decide +kernel
theorem dX11_clear_33 : decode cX11_clear 33 = .ok (.iastore, 1) := by decide +kernel
theorem dX11_clear_34 : decode cX11_clear 34 = .ok (.iload_n 2, 1) := by decide +kernel
theorem dX11_clear_35 : decode cX11_clear 35 = .ok (.ireturn, 1) := by decide +kernel
theorem dX11_exchanges_0 : decode cX11_exchanges 0 = .ok (.aload_n 0, 1) := by decide +kernel
theorem dX11_exchanges_1 : decode cX11_exchanges 1 = .ok (.getfield 75, 3) := by decide +kernel
theorem dX11_exchanges_4 : decode cX11_exchanges 4 = .ok (.iload_n 1, 1) := by decide +kernel
theorem dX11_exchanges_5 : decode cX11_exchanges 5 = .ok (.iaload, 1) := by decide +kernel
theorem dX11_exchanges_6 : decode cX11_exchanges 6 = .ok (.istore_n 3, 1) := by decide +kernel
theorem dX11_exchanges_7 : decode cX11_exchanges 7 = .ok (.aload_n 0, 1) := by decide +kernel
theorem dX11_exchanges_8 : decode cX11_exchanges 8 = .ok (.getfield 75, 3) := by decide +kernel
theorem dX11_exchanges_11 : decode cX11_exchanges 11 = .ok (.iload_n 1, 1) := by decide +kernel
theorem dX11_exchanges_12 : decode cX11_exchanges 12 = .ok (.aload_n 0, 1) := by decide +kernel
theorem dX11_exchanges_13 : decode cX11_exchanges 13 = .ok (.getfield 75, 3) := by decide +kernel
theorem dX11_exchanges_16 : decode cX11_exchanges 16 = .ok (.iload_n 2, 1) := by decide +kernel
theorem dX11_exchanges_17 : decode cX11_exchanges 17 = .ok (.iaload, 1) := by decide +kernel
theorem dX11_exchanges_18 : decode cX11_exchanges 18 = .ok (.iastore, 1) := by decide +kernel
theorem dX11_exchanges_19 : decode cX11_exchanges 19 = .ok (.aload_n 0, 1) := by decide +kernel
theorem dX11_exchanges_20 : decode cX11_exchanges 20 = .ok (.getfield 75, 3) := by decide +kernel
theorem dX11_exchanges_23 : decode cX11_exchanges 23 = .ok (.iload_n 2, 1) := by decide +kernel
theorem dX11_exchanges_24 : decode cX11_exchanges 24 = .ok (.iload_n 3, 1) := by decide +kernel
theorem dX11_exchanges_25 : decode cX11_exchanges 25 = .ok (.iastore, 1) := by decide +kernel
theorem dX11_exchanges_26 : decode cX11_exchanges 26 = .ok (.aload_n 0, 1) := by decide +kernel
theorem dX11_exchanges_27 : decode cX11_exchanges 27 = .ok (.getfield 78, 3) := by decide +kernel
theorem dX11_exchanges_30 : decode cX11_exchanges 30 = .ok (.iload_n 1, 1) := by decide +kernel
theorem dX11_exchanges_31 : decode cX11_exchanges 31 = .ok (.iaload, 1) := by decide +kernel
theorem dX11_exchanges_32 : decode cX11_exchanges 32 = .ok (.istore 4, 2) := by decide +kernel
theorem dX11_exchanges_34 : decode cX11_exchanges 34 = .ok (.aload_n 0, 1) := by decide +kernel
theorem dX11_exchanges_35 : decode cX11_exchanges 35 = .ok (.getfield 78, 3) := by decide +kernel
theorem dX11_exchanges_38 : decode cX11_exchanges 38 = .ok (.iload_n 1, 1) := by decide +kernel
theorem dX11_exchanges_39 : decode cX11_exchanges 39 = .ok (.aload_n 0, 1) := by decide +kernel
theorem dX11_exchanges_40 : decode cX11_exchanges 40 = .ok (.getfield 78, 3) := by decide +kernel
theorem dX11_exchanges_43 : decode cX11_exchanges 43 = .ok (.iload_n 2, 1) := by decide +kernel
theorem dX11_exchanges_44 : decode cX11_exchanges 44 = .ok (.iaload, 1) := by decide +kernel
theorem dX11_exchanges_45 : decode cX11_exchanges 45 = .ok (.iastore, 1) := by decide +kernel
theorem dX11_exchanges_46 : decode cX11_exchanges 46 = .ok (.aload_n 0, 1) := by decide +kernel
theorem dX11_exchanges_47 : decode cX11_exchanges 47 = .ok (.getfield 78, 3) := by decide +kernel
theorem dX11_exchanges_50 : decode cX11_exchanges 50 = .ok (.iload_n 2, 1) := by decide +kernel
theorem dX11_exchanges_51 : decode cX11_exchanges 51 = .ok (.iload 4, 2) := by decide +kernel
theorem dX11_exchanges_53 : decode cX11_exchanges 53 = .ok (.iastore, 1) := by decide +kernel
theorem dX11_exchanges_54 : decode cX11_exchanges 54 = .ok (.iconst 0, 1) := by decide +kernel
theorem dX11_exchanges_55 : decode cX11_exchanges 55 = .ok (.istore 5, 2) := by decide +kernel
theorem dX11_exchanges_57 : decode cX11_exchanges 57 = .ok (.iload 5, 2) := by decide +kernel
theorem dX11_exchanges_59 : decode cX11_exchanges 59 = .ok (.iconst 5, 1) := by decide +kernel
theorem dX11_exchanges_60 : decode cX11_exchanges 60 = .ok (.if_icmp .ge 105, 3) := by decide +kernel
theorem dX11_exchanges_63 : decode cX11_exchanges 63 = .ok (.aload_n 0, 1) := by decide +kernel
theorem dX11_exchanges_64 : decode cX11_exchanges 64 = .ok (.getfield 81, 3) := by decide +kernel
theorem dX11_exchanges_67 : decode cX11_exchanges 67 = .ok (.iconst 5, 1) := by decide +kernel
theorem dX11_exchanges_68 : decode cX11_exchanges 68 = .ok (.iload_n 1, 1) := by decide +kernel
theorem dX11_exchanges_69 : decode cX11_exchanges 69 = .ok (.imul, 1) := by decide +kernel
theorem dX11_exchanges_70 : decode cX11_exchanges 70 = .ok (.iload 5, 2) := by decide +kernel
theorem dX11_exchanges_72 : decode cX11_exchanges 72 = .ok (.iadd, 1) := by decide +kernel
theorem dX11_exchanges_73 : decode cX11_exchanges 73 = .ok (.caload, 1) := by decide +kernel
theorem dX11_exchanges_74 : decode cX11_exchanges 74 = .ok (.istore 6, 2) := by decide +kernel
theorem dX11_exchanges_76 : decode cX11_exchanges 76 = .ok (.aload_n 0, 1) := by decide +kernel
theorem dX11_exchanges_77 : decode cX11_exchanges 77 = .ok (.getfield 81, 3) := by decide +kernel
theorem dX11_exchanges_80 : decode cX11_exchanges 80 = .ok (.iconst 5, 1) := by decide +kernel
theorem dX11_exchanges_81 : decode cX11_exchanges 81 = .ok (.iload_n 1, 1) := by decide +kernel
theorem dX11_exchanges_82 : decode cX11_exchanges 82 = .ok (.imul, 1) := by decide +kernel
theorem dX11_exchanges_83 : decode cX11_exchanges 83 = .ok (.iload 5, 2) := by decide +kernel
theorem dX11_exchanges_85 : decode cX11_exchanges 85 = .ok (.iadd, 1) := by decide +kernel
theorem dX11_exchanges_86 : decode cX11_exchanges 86 = .ok (.aload_n 0, 1) := by decide +kernel
theorem dX11_exchanges_87 : decode cX11_exchanges 87 = .ok (.getfield 81, 3) := by decide +kernel
theorem dX11_exchanges_90 : decode cX11_exchanges 90 = .ok (.iconst 5, 1) := by decide +kernel
theorem dX11_exchanges_91 : decode cX11_exchanges 91 = .ok (.iload_n 2, 1) := by decide +kernel
theorem dX11_exchanges_92 : decode cX11_exchanges 92 = .ok (.imul, 1) := by decide +kernel
theorem dX11_exchanges_93 : decode cX11_exchanges 93 = .ok (.iload 5, 2) := by decide +kernel
theorem dX11_exchanges_95 : decode cX11_exchanges 95 = .ok (.iadd, 1) := by decide +kernel
theorem dX11_exchanges_96 : decode cX11_exchanges 96 = .ok (.caload, 1) := by decide +kernel
theorem dX11_exchanges_97 : decode cX11_exchanges 97 = .ok (.castore, 1) := by decide +kernel
theorem dX11_exchanges_98 : decode cX11_exchanges 98 = .ok (.aload_n 0, 1) := by decide +kernel
theorem dX11_exchanges_99 : decode cX11_exchanges 99 = .ok (.getfield 81, 3) := by decide +kernel
theorem dX11_exchanges_102 : decode cX11_exchanges 102 = .ok (.iconst 5, 1) := by decide +kernel
theorem dX11_exchanges_103 : decode cX11_exchanges 103 = .ok (.iload_n 2, 1) := by decide +kernel
theorem dX11_exchanges_104 : decode cX11_exchanges 104 = .ok (.imul, 1) := by decide +kernel
theorem dX11_exchanges_105 : decode cX11_exchanges 105 = .ok (.iload 5, 2) := by decide +kernel
theorem dX11_exchanges_107 : decode cX11_exchanges 107 = .ok (.iadd, 1) := by decide +kernel
theorem dX11_exchanges_108 : decode cX11_exchanges 108 = .ok (.iload 6, 2) := by decide +kernel
theorem dX11_exchanges_110 : decode cX11_exchanges 110 = .ok (.castore, 1) := by decide +kernel
theorem dX11_exchanges_111 : decode cX11_exchanges 111 = .ok (.aload_n 0, 1) := by decide +kernel
theorem dX11_exchanges_112 : decode cX11_exchanges 112 = .ok (.getfield 84, 3) := by decide +kernel
theorem dX11_exchanges_115 : decode cX11_exchanges 115 = .ok (.iconst 5, 1) := by decide +kernel
theorem dX11_exchanges_116 : decode cX11_exchanges 116 = .ok (.iload_n 1, 1) := by decide +kernel
theorem dX11_exchanges_117 : decode cX11_exchanges 117 = .ok (.imul, 1) := by decide +kernel
theorem dX11_exchanges_118 : decode cX11_exchanges 118 = .ok (.iload 5, 2) := by decide +kernel
theorem dX11_exchanges_120 : decode cX11_exchanges 120 = .ok (.iadd, 1) := by decide +kernel
theorem dX11_exchanges_121 : decode cX11_exchanges 121 = .ok (.iaload, 1) := by decide +kernel
theorem dX11_exchanges_122 : decode cX11_exchanges 122 = .ok (.istore 7, 2) := by decide +kernel
theorem dX11_exchanges_124 : decode cX11_exchanges 124 = .ok (.aload_n 0, 1) := by decide +kernel
theorem dX11_exchanges_125 : decode cX11_exchanges 125 = .ok (.getfield 84, 3) := by decide +kernel
theorem dX11_exchanges_128 : decode cX11_exchanges 128 = .ok (.iconst 5, 1) := by decide +kernel
theorem dX11_exchanges_129 : decode cX11_exchanges 129 = .ok (.iload_n 1, 1) := by decide +kernel
theorem dX11_exchanges_130 : decode cX11_exchanges 130 = .ok (.imul, 1) := by decide +kernel
theorem dX11_exchanges_131 : decode cX11_exchanges 131 = .ok (.iload 5, 2) := by decide +kernel
theorem dX11_exchanges_133 : decode cX11_exchanges 133 = .ok (.iadd, 1) := by decide +kernel
theorem dX11_exchanges_134 : decode cX11_exchanges 134 = .ok (.aload_n 0, 1) := by decide +kernel
theorem dX11_exchanges_135 : decode cX11_exchanges 135 = .ok (.getfield 84, 3) := by decide +kernel
theorem dX11_exchanges_138 : decode cX11_exchanges 138 = .ok (.iconst 5, 1) := by decide +kernel
theorem dX11_exchanges_139 : decode cX11_exchanges 139 = .ok (.iload_n 2, 1) := by decide +kernel
theorem dX11_exchanges_140 : decode cX11_exchanges 140 = .ok (.imul, 1) := by decide +kernel
theorem dX11_exchanges_141 : decode cX11_exchanges 141 = .ok (.iload 5, 2) := by decide +kernel
theorem dX11_exchanges_143 : decode cX11_exchanges 143 = .ok (.iadd, 1) := by decide +kernel
theorem dX11_exchanges_144 : decode cX11_exchanges 144 = .ok (.iaload, 1) := by decide +kernel
theorem dX11_exchanges_145 : decode cX11_exchanges 145 = .ok (.iastore, 1) := by decide +kernel
theorem dX11_exchanges_146 : decode cX11_exchanges 146 = .ok (.aload_n 0, 1) := by decide +kernel
theorem dX11_exchanges_147 : decode cX11_exchanges 147 = .ok (.getfield 84, 3) := by decide +kernel
theorem dX11_exchanges_150 : decode cX11_exchanges 150 = .ok (.iconst 5, 1) := by decide +kernel
theorem dX11_exchanges_151 : decode cX11_exchanges 151 = .ok (.iload_n 2, 1) := by decide +kernel
theorem dX11_exchanges_152 : decode cX11_exchanges 152 = .ok (.imul, 1) := by decide +kernel
theorem dX11_exchanges_153 : decode cX11_exchanges 153 = .ok (.iload 5, 2) := by decide +kernel
theorem dX11_exchanges_155 : decode cX11_exchanges 155 = .ok (.iadd, 1) := by decide +kernel
theorem dX11_exchanges_156 : decode cX11_exchanges 156 = .ok (.iload 7, 2) := by decide +kernel
theorem dX11_exchanges_158 : decode cX11_exchanges 158 = .ok (.iastore, 1) := by decide +kernel
theorem dX11_exchanges_159 : decode cX11_exchanges 159 = .ok (.iinc 5 1, 3) := by decide +kernel
theorem dX11_exchanges_162 : decode cX11_exchanges 162 = .ok (.goto (-105), 3) := by decide +kernel
theorem dX11_exchanges_165 : decode cX11_exchanges 165 = .ok (.return_, 1) := by decide +kernel
theorem dX11_reorder_0 : decode cX11_reorder 0 = .ok (.aload_n 0, 1) := by decide +kernel
theorem dX11_reorder_1 : decode cX11_reorder 1 = .ok (.iconst 0, 1) := by decide +kernel
theorem dX11_reorder_2 : decode cX11_reorder 2 = .ok (.putfield 138, 3) := by decide +kernel
theorem dX11_reorder_5 : decode cX11_reorder 5 = .ok (.aload_n 0, 1) := by decide +kernel
theorem dX11_reorder_6 : decode cX11_reorder 6 = .ok (.iload_n 1, 1) := by decide +kernel
theorem dX11_reorder_7 : decode cX11_reorder 7 = .ok (.iload_n 2, 1) := by decide +kernel
theorem dX11_reorder_8 : decode cX11_reorder 8 = .ok (.invokevirtual 197, 3) := by decide +kernel
theorem dX11_reorder_11 : decode cX11_reorder 11 = .ok (.ifCond .eq 12, 3) := by decide +kernel
theorem dX11_reorder_14 : decode cX11_reorder 14 = .ok (.aload_n 0, 1) := by decide +kernel
theorem dX11_reorder_15 : decode cX11_reorder 15 = .ok (.iload_n 1, 1) := by decide +kernel
theorem dX11_reorder_16 : decode cX11_reorder 16 = .ok (.iload_n 3, 1) := by decide +kernel
theorem dX11_reorder_17 : decode cX11_reorder 17 = .ok (.invokevirtual 197, 3) := by decide +kernel
theorem dX11_reorder_20 : decode cX11_reorder 20 = .ok (.ifCond .ne 9, 3) := by decide +kernel
theorem dX11_reorder_23 : decode cX11_reorder 23 = .ok (.aload_n 0, 1) := by decide +kernel
theorem dX11_reorder_24 : decode cX11_reorder 24 = .ok (.iconst 1, 1) := by decide +kernel
theorem dX11_reorder_25 : decode cX11_reorder 25 = .ok (.invokevirtual 147, 3) := by decide +kernel
theorem dX11_reorder_28 : decode cX11_reorder 28 = .ok (.ireturn, 1) := by decide +kernel
theorem dX11_reorder_29 : decode cX11_reorder 29 = .ok (.iload_n 2, 1) := by decide +kernel
theorem dX11_reorder_30 : decode cX11_reorder 30 = .ok (.istore 4, 2) := by decide +kernel
theorem dX11_reorder_32 : decode cX11_reorder 32 = .ok (.iload 4, 2) := by decide +kernel
theorem dX11_reorder_34 : decode cX11_reorder 34 = .ok (.iload_n 3, 1) := by decide +kernel
theorem dX11_reorder_35 : decode cX11_reorder 35 = .ok (.if_icmp .ge 29, 3) := by decide +kernel
theorem dX11_reorder_38 : decode cX11_reorder 38 = .ok (.aload_n 0, 1) := by decide +kernel
theorem dX11_reorder_39 : decode cX11_reorder 39 = .ok (.bipush 12, 2) := by decide +kernel
theorem dX11_reorder_41 : decode cX11_reorder 41 = .ok (.iload_n 1, 1) := by decide +kernel
theorem dX11_reorder_42 : decode cX11_reorder 42 = .ok (.imul, 1) := by decide +kernel
theorem dX11_reorder_43 : decode cX11_reorder 43 = .ok (.iload 4, 2) := by decide +kernel
theorem dX11_reorder_45 : decode cX11_reorder 45 = .ok (.iadd, 1) := by decide +kernel
theorem dX11_reorder_46 : decode cX11_reorder 46 = .ok (.bipush 12, 2) := by decide +kernel
theorem dX11_reorder_48 : decode cX11_reorder 48 = .ok (.iload_n 1, 1) := by decide +kernel
theorem dX11_reorder_49 : decode cX11_reorder 49 = .ok (.imul, 1) := by decide +kernel
theorem dX11_reorder_50 : decode cX11_reorder 50 = .ok (.iload 4, 2) := by decide +kernel
theorem dX11_reorder_52 : decode cX11_reorder 52 = .ok (.iadd, 1) := by decide +kernel
theorem dX11_reorder_53 : decode cX11_reorder 53 = .ok (.iconst 1, 1) := by decide +kernel
theorem dX11_reorder_54 : decode cX11_reorder 54 = .ok (.iadd, 1) := by decide +kernel
theorem dX11_reorder_55 : decode cX11_reorder 55 = .ok (.invokevirtual 203, 3) := by decide +kernel
theorem dX11_reorder_58 : decode cX11_reorder 58 = .ok (.iinc 4 1, 3) := by decide +kernel
theorem dX11_reorder_61 : decode cX11_reorder 61 = .ok (.goto (-29), 3) := by decide +kernel
theorem dX11_reorder_64 : decode cX11_reorder 64 = .ok (.iload_n 2, 1) := by decide +kernel
theorem dX11_reorder_65 : decode cX11_reorder 65 = .ok (.istore 4, 2) := by decide +kernel
theorem dX11_reorder_67 : decode cX11_reorder 67 = .ok (.iload 4, 2) := by decide +kernel
theorem dX11_reorder_69 : decode cX11_reorder 69 = .ok (.iload_n 3, 1) := by decide +kernel
theorem dX11_reorder_70 : decode cX11_reorder 70 = .ok (.if_icmp .le 29, 3) := by decide +kernel
theorem dX11_reorder_73 : decode cX11_reorder 73 = .ok (.aload_n 0, 1) := by decide +kernel
theorem dX11_reorder_74 : decode cX11_reorder 74 = .ok (.bipush 12, 2) := by decide +kernel
theorem dX11_reorder_76 : decode cX11_reorder 76 = .ok (.iload_n 1, 1) := by decide +kernel
theorem dX11_reorder_77 : decode cX11_reorder 77 = .ok (.imul, 1) := by decide +kernel
theorem dX11_reorder_78 : decode cX11_reorder 78 = .ok (.iload 4, 2) := by decide +kernel
theorem dX11_reorder_80 : decode cX11_reorder 80 = .ok (.iadd, 1) := by decide +kernel
theorem dX11_reorder_81 : decode cX11_reorder 81 = .ok (.bipush 12, 2) := by decide +kernel
theorem dX11_reorder_83 : decode cX11_reorder 83 = .ok (.iload_n 1, 1) := by decide +kernel
theorem dX11_reorder_84 : decode cX11_reorder 84 = .ok (.imul, 1) := by decide +kernel
theorem dX11_reorder_85 : decode cX11_reorder 85 = .ok (.iload 4, 2) := by decide +kernel
theorem dX11_reorder_87 : decode cX11_reorder 87 = .ok (.iadd, 1) := by decide +kernel
theorem dX11_reorder_88 : decode cX11_reorder 88 = .ok (.iconst 1, 1) := by decide +kernel
theorem dX11_reorder_89 : decode cX11_reorder 89 = .ok (.isub, 1) := by decide +kernel
theorem dX11_reorder_90 : decode cX11_reorder 90 = .ok (.invokevirtual 203, 3) := by decide +kernel
theorem dX11_reorder_93 : decode cX11_reorder 93 = .ok (.iinc 4 (-1), 3) := by decide +kernel
theorem dX11_reorder_96 : decode cX11_reorder 96 = .ok (.goto (-29), 3) := by decide +kernel
theorem dX11_reorder_99 : decode cX11_reorder 99 = .ok (.aload_n 0, 1) := by decide +kernel
theorem dX11_reorder_100 : decode cX11_reorder 100 = .ok (.getfield 72, 3) := by decide +kernel
theorem dX11_reorder_103 : decode cX11_reorder 103 = .ok (.iload_n 1, 1) := by decide +kernel
theorem dX11_reorder_104 : decode cX11_reorder 104 = .ok (.iaload, 1) := by decide +kernel
theorem dX11_reorder_105 : decode cX11_reorder 105 = .ok (.ireturn, 1) := by decide +kernel
theorem dX11_does_0 : decode cX11_does 0 = .ok (.aload_n 0, 1) := by decide +kernel
theorem dX11_does_1 : decode cX11_does 1 = .ok (.getfield 207, 3) := by decide +kernel
theorem dX11_does_4 : decode cX11_does 4 = .ok (.sipush 200, 3) := by decide +kernel
theorem dX11_does_7 : decode cX11_does 7 = .ok (.if_icmp .ne 10, 3) := by decide +kernel
theorem dX11_does_10 : decode cX11_does 10 = .ok (.aload_n 0, 1) := by decide +kernel
theorem dX11_does_11 : decode cX11_does 11 = .ok (.iconst (-1), 1) := by decide +kernel
theorem dX11_does_12 : decode cX11_does 12 = .ok (.putfield 210, 3) := by decide +kernel
theorem dX11_does_15 : decode cX11_does 15 = .ok (.iconst 0, 1) := by decide +kernel
theorem dX11_does_16 : decode cX11_does 16 = .ok (.ireturn, 1) := by decide +kernel
theorem dX11_does_17 : decode cX11_does 17 = .ok (.aload_n 0, 1) := by decide +kernel
theorem dX11_does_18 : decode cX11_does 18 = .ok (.getfield 99, 3) := by decide +kernel
theorem dX11_does_21 : decode cX11_does 21 = .ok (.aload_n 0, 1) := by decide +kernel
theorem dX11_does_22 : decode cX11_does 22 = .ok (.getfield 207, 3) := by decide +kernel
theorem dX11_does_25 : decode cX11_does 25 = .ok (.iload_n 1, 1) := by decide +kernel
theorem dX11_does_26 : decode cX11_does 26 = .ok (.iastore, 1) := by decide +kernel
theorem dX11_does_27 : decode cX11_does 27 = .ok (.aload_n 0, 1) := by decide +kernel
theorem dX11_does_28 : decode cX11_does 28 = .ok (.dup, 1) := by decide +kernel
theorem dX11_does_29 : decode cX11_does 29 = .ok (.getfield 207, 3) := by decide +kernel
theorem dX11_does_32 : decode cX11_does 32 = .ok (.iconst 1, 1) := by decide +kernel
theorem dX11_does_33 : decode cX11_does 33 = .ok (.iadd, 1) := by decide +kernel
theorem dX11_does_34 : decode cX11_does 34 = .ok (.putfield 207, 3) := by decide +kernel
theorem dX11_does_37 : decode cX11_does 37 = .ok (.iconst 1, 1) := by decide +kernel
theorem dX11_does_38 : decode cX11_does 38 = .ok (.ireturn, 1) := by decide +kernel
theorem dX11_isFull_0 : decode cX11_isFull 0 = .ok (.aload_n 0, 1) := by decide +kernel
theorem dX11_isFull_1 : decode cX11_isFull 1 = .ok (.getfield 213, 3) := by decide +kernel
theorem dX11_isFull_4 : decode cX11_isFull 4 = .ok (.bipush 109, 2) := by decide +kernel
theorem dX11_isFull_6 : decode cX11_isFull 6 = .ok (.if_icmp .ne 20, 3) := by decide +kernel
theorem dX11_isFull_9 : decode cX11_isFull 9 = .ok (.aload_n 0, 1) := by decide +kernel
theorem dX11_isFull_10 : decode cX11_isFull 10 = .ok (.getfield 217, 3) := by decide +kernel
theorem dX11_isFull_13 : decode cX11_isFull 13 = .ok (.iload_n 1, 1) := by decide +kernel
theorem dX11_isFull_14 : decode cX11_isFull 14 = .ok (.if_icmp .ne 12, 3) := by decide +kernel
theorem dX11_isFull_17 : decode cX11_isFull 17 = .ok (.aload_n 0, 1) := by decide +kernel
theorem dX11_isFull_18 : decode cX11_isFull 18 = .ok (.getfield 22, 3) := by decide +kernel
theorem dX11_isFull_21 : decode cX11_isFull 21 = .ok (.iload_n 2, 1) := by decide +kernel
theorem dX11_isFull_22 : decode cX11_isFull 22 = .ok (.iaload, 1) := by decide +kernel
theorem dX11_isFull_23 : decode cX11_isFull 23 = .ok (.goto 4, 3) := by decide +kernel
theorem dX11_isFull_26 : decode cX11_isFull 26 = .ok (.iconst 0, 1) := by decide +kernel
theorem dX11_isFull_27 : decode cX11_isFull 27 = .ok (.istore_n 3, 1) := by decide +kernel
theorem dX11_isFull_28 : decode cX11_isFull 28 = .ok (.iload_n 1, 1) := by decide +kernel
theorem dX11_isFull_29 : decode cX11_isFull 29 = .ok (.ifCond .le 38, 3) := by decide +kernel
theorem dX11_isFull_32 : decode cX11_isFull 32 = .ok (.aload_n 0, 1) := by decide +kernel
theorem dX11_isFull_33 : decode cX11_isFull 33 = .ok (.iload_n 1, 1) := by decide +kernel
theorem dX11_isFull_34 : decode cX11_isFull 34 = .ok (.iload_n 2, 1) := by decide +kernel
theorem dX11_isFull_35 : decode cX11_isFull 35 = .ok (.invokevirtual 161, 3) := by decide +kernel
theorem dX11_isFull_38 : decode cX11_isFull 38 = .ok (.aload_n 0, 1) := by decide +kernel
theorem dX11_isFull_39 : decode cX11_isFull 39 = .ok (.getfield 96, 3) := by decide +kernel
theorem dX11_isFull_42 : decode cX11_isFull 42 = .ok (.iload_n 1, 1) := by decide +kernel
theorem dX11_isFull_43 : decode cX11_isFull 43 = .ok (.iaload, 1) := by decide +kernel
theorem dX11_isFull_44 : decode cX11_isFull 44 = .ok (.iadd, 1) := by decide +kernel
theorem dX11_isFull_45 : decode cX11_isFull 45 = .ok (.iload_n 3, 1) := by decide +kernel
theorem dX11_isFull_46 : decode cX11_isFull 46 = .ok (.iadd, 1) := by decide +kernel
theorem dX11_isFull_47 : decode cX11_isFull 47 = .ok (.aload_n 0, 1) := by decide +kernel
theorem dX11_isFull_48 : decode cX11_isFull 48 = .ok (.getfield 22, 3) := by decide +kernel
theorem dX11_isFull_51 : decode cX11_isFull 51 = .ok (.iload_n 2, 1) := by decide +kernel
theorem dX11_isFull_52 : decode cX11_isFull 52 = .ok (.iaload, 1) := by decide +kernel
theorem dX11_isFull_53 : decode cX11_isFull 53 = .ok (.iadd, 1) := by decide +kernel
theorem dX11_isFull_54 : decode cX11_isFull 54 = .ok (.aload_n 0, 1) := by decide +kernel
theorem dX11_isFull_55 : decode cX11_isFull 55 = .ok (.getfield 44, 3) := by decide +kernel
theorem dX11_isFull_58 : decode cX11_isFull 58 = .ok (.iload_n 1, 1) := by decide +kernel
theorem dX11_isFull_59 : decode cX11_isFull 59 = .ok (.iaload, 1) := by decide +kernel
theorem dX11_isFull_60 : decode cX11_isFull 60 = .ok (.if_icmp .le 7, 3) := by decide +kernel
theorem dX11_isFull_63 : decode cX11_isFull 63 = .ok (.iconst 1, 1) := by decide +kernel
theorem dX11_isFull_64 : decode cX11_isFull 64 = .ok (.goto 4, 3) := by decide +kernel
theorem dX11_isFull_67 : decode cX11_isFull 67 = .ok (.iconst 0, 1) := by decide +kernel
theorem dX11_isFull_68 : decode cX11_isFull 68 = .ok (.ireturn, 1) := by decide +kernel
theorem dX11_chooses_0 : decode cX11_chooses 0 = .ok (.aload_n 0, 1) := by decide +kernel
theorem dX11_chooses_1 : decode cX11_chooses 1 = .ok (.getfield 213, 3) := by decide +kernel
theorem dX11_chooses_4 : decode cX11_chooses 4 = .ok (.bipush 45, 2) := by decide +kernel
theorem dX11_chooses_6 : decode cX11_chooses 6 = .ok (.if_icmp .ne 16, 3) := by decide +kernel
theorem dX11_chooses_9 : decode cX11_chooses 9 = .ok (.iload_n 1, 1) := by decide +kernel
theorem dX11_chooses_10 : decode cX11_chooses 10 = .ok (.bipush 114, 2) := by decide +kernel
theorem dX11_chooses_12 : decode cX11_chooses 12 = .ok (.if_icmp .ne 14, 3) := by decide +kernel
theorem dX11_chooses_15 : decode cX11_chooses 15 = .ok (.aload_n 0, 1) := by decide +kernel
theorem dX11_chooses_16 : decode cX11_chooses 16 = .ok (.getfield 220, 3) := by decide +kernel
theorem dX11_chooses_19 : decode cX11_chooses 19 = .ok (.ifCond .eq 7, 3) := by decide +kernel
theorem dX11_chooses_22 : decode cX11_chooses 22 = .ok (.iconst 1, 1) := by decide +kernel
theorem dX11_chooses_23 : decode cX11_chooses 23 = .ok (.goto 4, 3) := by decide +kernel
theorem dX11_chooses_26 : decode cX11_chooses 26 = .ok (.iconst 0, 1) := by decide +kernel
theorem dX11_chooses_27 : decode cX11_chooses 27 = .ok (.istore 5, 2) := by decide +kernel
theorem dX11_chooses_29 : decode cX11_chooses 29 = .ok (.iload 5, 2) := by decide +kernel
theorem dX11_chooses_31 : decode cX11_chooses 31 = .ok (.ifCond .eq 16, 3) := by decide +kernel
theorem dX11_chooses_34 : decode cX11_chooses 34 = .ok (.aload_n 0, 1) := by decide +kernel
theorem dX11_chooses_35 : decode cX11_chooses 35 = .ok (.dup, 1) := by decide +kernel
theorem dX11_chooses_36 : decode cX11_chooses 36 = .ok (.getfield 224, 3) := by decide +kernel
theorem dX11_chooses_39 : decode cX11_chooses 39 = .ok (.iconst 1, 1) := by decide +kernel
theorem dX11_chooses_40 : decode cX11_chooses 40 = .ok (.iadd, 1) := by decide +kernel
theorem dX11_chooses_41 : decode cX11_chooses 41 = .ok (.putfield 224, 3) := by decide +kernel
theorem dX11_chooses_44 : decode cX11_chooses 44 = .ok (.goto 78, 3) := by decide +kernel
theorem dX11_chooses_47 : decode cX11_chooses 47 = .ok (.aload_n 0, 1) := by decide +kernel
theorem dX11_chooses_48 : decode cX11_chooses 48 = .ok (.iload 4, 2) := by decide +kernel
theorem dX11_chooses_50 : decode cX11_chooses 50 = .ok (.invokevirtual 227, 3) := by decide +kernel
theorem dX11_chooses_53 : decode cX11_chooses 53 = .ok (.ifCond .eq 69, 3) := by decide +kernel
theorem dX11_chooses_56 : decode cX11_chooses 56 = .ok (.iload_n 1, 1) := by decide +kernel
theorem dX11_chooses_57 : decode cX11_chooses 57 = .ok (.bipush 109, 2) := by decide +kernel
theorem dX11_chooses_59 : decode cX11_chooses 59 = .ok (.if_icmp .ne 16, 3) := by decide +kernel
theorem dX11_chooses_62 : decode cX11_chooses 62 = .ok (.aload_n 0, 1) := by decide +kernel
theorem dX11_chooses_63 : decode cX11_chooses 63 = .ok (.iload_n 2, 1) := by decide +kernel
theorem dX11_chooses_64 : decode cX11_chooses 64 = .ok (.iload_n 3, 1) := by decide +kernel
theorem dX11_chooses_65 : decode cX11_chooses 65 = .ok (.invokevirtual 230, 3) := by decide +kernel
theorem dX11_chooses_68 : decode cX11_chooses 68 = .ok (.ifCond .eq 7, 3) := by decide +kernel
theorem dX11_chooses_71 : decode cX11_chooses 71 = .ok (.iconst 1, 1) := by decide +kernel
theorem dX11_chooses_72 : decode cX11_chooses 72 = .ok (.goto 4, 3) := by decide +kernel
theorem dX11_chooses_75 : decode cX11_chooses 75 = .ok (.iconst 0, 1) := by decide +kernel
theorem dX11_chooses_76 : decode cX11_chooses 76 = .ok (.istore 6, 2) := by decide +kernel
theorem dX11_chooses_78 : decode cX11_chooses 78 = .ok (.aload_n 0, 1) := by decide +kernel
theorem dX11_chooses_79 : decode cX11_chooses 79 = .ok (.iload_n 1, 1) := by decide +kernel
theorem dX11_chooses_80 : decode cX11_chooses 80 = .ok (.putfield 213, 3) := by decide +kernel
theorem dX11_chooses_83 : decode cX11_chooses 83 = .ok (.aload_n 0, 1) := by decide +kernel
theorem dX11_chooses_84 : decode cX11_chooses 84 = .ok (.iload_n 1, 1) := by decide +kernel
theorem dX11_chooses_85 : decode cX11_chooses 85 = .ok (.bipush 109, 2) := by decide +kernel
theorem dX11_chooses_87 : decode cX11_chooses 87 = .ok (.if_icmp .ne 12, 3) := by decide +kernel
theorem dX11_chooses_90 : decode cX11_chooses 90 = .ok (.iload 6, 2) := by decide +kernel
theorem dX11_chooses_92 : decode cX11_chooses 92 = .ok (.ifCond .ne 7, 3) := by decide +kernel
theorem dX11_chooses_95 : decode cX11_chooses 95 = .ok (.iload_n 2, 1) := by decide +kernel
theorem dX11_chooses_96 : decode cX11_chooses 96 = .ok (.goto 4, 3) := by decide +kernel
theorem dX11_chooses_99 : decode cX11_chooses 99 = .ok (.iconst 0, 1) := by decide +kernel
theorem dX11_chooses_100 : decode cX11_chooses 100 = .ok (.putfield 217, 3) := by decide +kernel
theorem dX11_chooses_103 : decode cX11_chooses 103 = .ok (.aload_n 0, 1) := by decide +kernel
theorem dX11_chooses_104 : decode cX11_chooses 104 = .ok (.dup, 1) := by decide +kernel
theorem dX11_chooses_105 : decode cX11_chooses 105 = .ok (.getfield 233, 3) := by decide +kernel
theorem dX11_chooses_108 : decode cX11_chooses 108 = .ok (.iload 6, 2) := by decide +kernel
theorem dX11_chooses_110 : decode cX11_chooses 110 = .ok (.ifCond .eq 7, 3) := by decide +kernel
theorem dX11_chooses_113 : decode cX11_chooses 113 = .ok (.iconst 1, 1) := by decide +kernel
theorem dX11_chooses_114 : decode cX11_chooses 114 = .ok (.goto 4, 3) := by decide +kernel
theorem dX11_chooses_117 : decode cX11_chooses 117 = .ok (.iconst 0, 1) := by decide +kernel
theorem dX11_chooses_118 : decode cX11_chooses 118 = .ok (.iadd, 1) := by decide +kernel
theorem dX11_chooses_119 : decode cX11_chooses 119 = .ok (.putfield 233, 3) := by decide +kernel
theorem dX11_chooses_122 : decode cX11_chooses 122 = .ok (.return_, 1) := by decide +kernel
theorem dX11_sends_0 : decode cX11_sends 0 = .ok (.iload_n 2, 1) := by decide +kernel
theorem dX11_sends_1 : decode cX11_sends 1 = .ok (.aload_n 0, 1) := by decide +kernel
theorem dX11_sends_2 : decode cX11_sends 2 = .ok (.getfield 7, 3) := by decide +kernel
theorem dX11_sends_5 : decode cX11_sends 5 = .ok (.iload_n 3, 1) := by decide +kernel
theorem dX11_sends_6 : decode cX11_sends 6 = .ok (.iaload, 1) := by decide +kernel
theorem dX11_sends_7 : decode cX11_sends 7 = .ok (.if_icmp .eq 32, 3) := by decide +kernel
theorem dX11_sends_10 : decode cX11_sends 10 = .ok (.aload_n 0, 1) := by decide +kernel
theorem dX11_sends_11 : decode cX11_sends 11 = .ok (.getfield 13, 3) := by decide +kernel
theorem dX11_sends_14 : decode cX11_sends 14 = .ok (.iload_n 3, 1) := by decide +kernel
theorem dX11_sends_15 : decode cX11_sends 15 = .ok (.iaload, 1) := by decide +kernel
theorem dX11_sends_16 : decode cX11_sends 16 = .ok (.iload_n 2, 1) := by decide +kernel
theorem dX11_sends_17 : decode cX11_sends 17 = .ok (.bipush 10, 2) := by decide +kernel
theorem dX11_sends_19 : decode cX11_sends 19 = .ok (.irem, 1) := by decide +kernel
theorem dX11_sends_20 : decode cX11_sends 20 = .ok (.ishr, 1) := by decide +kernel
theorem dX11_sends_21 : decode cX11_sends 21 = .ok (.iconst 1, 1) := by decide +kernel
theorem dX11_sends_22 : decode cX11_sends 22 = .ok (.iand, 1) := by decide +kernel
theorem dX11_sends_23 : decode cX11_sends 23 = .ok (.iconst 1, 1) := by decide +kernel
theorem dX11_sends_24 : decode cX11_sends 24 = .ok (.if_icmp .eq 15, 3) := by decide +kernel
theorem dX11_sends_27 : decode cX11_sends 27 = .ok (.aload_n 0, 1) := by decide +kernel
theorem dX11_sends_28 : decode cX11_sends 28 = .ok (.getfield 236, 3) := by decide +kernel
theorem dX11_sends_31 : decode cX11_sends 31 = .ok (.iload_n 2, 1) := by decide +kernel
theorem dX11_sends_32 : decode cX11_sends 32 = .ok (.ishr, 1) := by decide +kernel
theorem dX11_sends_33 : decode cX11_sends 33 = .ok (.iconst 1, 1) := by decide +kernel
theorem dX11_sends_34 : decode cX11_sends 34 = .ok (.iand, 1) := by decide +kernel
theorem dX11_sends_35 : decode cX11_sends 35 = .ok (.iconst 1, 1) := by decide +kernel
theorem dX11_sends_36 : decode cX11_sends 36 = .ok (.if_icmp .ne 7, 3) := by decide +kernel
theorem dX11_sends_39 : decode cX11_sends 39 = .ok (.iconst 1, 1) := by decide +kernel
theorem dX11_sends_40 : decode cX11_sends 40 = .ok (.goto 4, 3) := by decide +kernel
theorem dX11_sends_43 : decode cX11_sends 43 = .ok (.iconst 0, 1) := by decide +kernel
theorem dX11_sends_44 : decode cX11_sends 44 = .ok (.istore 5, 2) := by decide +kernel
theorem dX11_sends_46 : decode cX11_sends 46 = .ok (.aload_n 0, 1) := by decide +kernel
theorem dX11_sends_47 : decode cX11_sends 47 = .ok (.getfield 213, 3) := by decide +kernel
theorem dX11_sends_50 : decode cX11_sends 50 = .ok (.bipush 114, 2) := by decide +kernel
theorem dX11_sends_52 : decode cX11_sends 52 = .ok (.if_icmp .ne 16, 3) := by decide +kernel
theorem dX11_sends_55 : decode cX11_sends 55 = .ok (.aload_n 0, 1) := by decide +kernel
theorem dX11_sends_56 : decode cX11_sends 56 = .ok (.dup, 1) := by decide +kernel
theorem dX11_sends_57 : decode cX11_sends 57 = .ok (.getfield 224, 3) := by decide +kernel
theorem dX11_sends_60 : decode cX11_sends 60 = .ok (.iconst 1, 1) := by decide +kernel
theorem dX11_sends_61 : decode cX11_sends 61 = .ok (.iadd, 1) := by decide +kernel
theorem dX11_sends_62 : decode cX11_sends 62 = .ok (.putfield 224, 3) := by decide +kernel
theorem dX11_sends_65 : decode cX11_sends 65 = .ok (.goto 178, 3) := by decide +kernel
theorem dX11_sends_68 : decode cX11_sends 68 = .ok (.iload_n 1, 1) := by decide +kernel
theorem dX11_sends_69 : decode cX11_sends 69 = .ok (.bipush 99, 2) := by decide +kernel
theorem dX11_sends_71 : decode cX11_sends 71 = .ok (.if_icmp .ne 25, 3) := by decide +kernel
theorem dX11_sends_74 : decode cX11_sends 74 = .ok (.aload_n 0, 1) := by decide +kernel
theorem dX11_sends_75 : decode cX11_sends 75 = .ok (.iload_n 2, 1) := by decide +kernel
theorem dX11_sends_76 : decode cX11_sends 76 = .ok (.iload_n 3, 1) := by decide +kernel
theorem dX11_sends_77 : decode cX11_sends 77 = .ok (.invokevirtual 230, 3) := by decide +kernel
theorem dX11_sends_80 : decode cX11_sends 80 = .ok (.ifCond .eq 16, 3) := by decide +kernel
theorem dX11_sends_83 : decode cX11_sends 83 = .ok (.aload_n 0, 1) := by decide +kernel
theorem dX11_sends_84 : decode cX11_sends 84 = .ok (.dup, 1) := by decide +kernel
theorem dX11_sends_85 : decode cX11_sends 85 = .ok (.getfield 233, 3) := by decide +kernel
theorem dX11_sends_88 : decode cX11_sends 88 = .ok (.iconst 1, 1) := by decide +kernel
theorem dX11_sends_89 : decode cX11_sends 89 = .ok (.iadd, 1) := by decide +kernel
theorem dX11_sends_90 : decode cX11_sends 90 = .ok (.putfield 233, 3) := by decide +kernel
theorem dX11_sends_93 : decode cX11_sends 93 = .ok (.goto 150, 3) := by decide +kernel
theorem dX11_sends_96 : decode cX11_sends 96 = .ok (.iload_n 1, 1) := by decide +kernel
theorem dX11_sends_97 : decode cX11_sends 97 = .ok (.bipush 119, 2) := by decide +kernel
theorem dX11_sends_99 : decode cX11_sends 99 = .ok (.if_icmp .ne 21, 3) := by decide +kernel
theorem dX11_sends_102 : decode cX11_sends 102 = .ok (.iload 5, 2) := by decide +kernel
theorem dX11_sends_104 : decode cX11_sends 104 = .ok (.ifCond .eq 16, 3) := by decide +kernel
theorem dX11_sends_107 : decode cX11_sends 107 = .ok (.aload_n 0, 1) := by decide +kernel
theorem dX11_sends_108 : decode cX11_sends 108 = .ok (.dup, 1) := by decide +kernel
theorem dX11_sends_109 : decode cX11_sends 109 = .ok (.getfield 239, 3) := by decide +kernel
theorem dX11_sends_112 : decode cX11_sends 112 = .ok (.iconst 1, 1) := by decide +kernel
theorem dX11_sends_113 : decode cX11_sends 113 = .ok (.iadd, 1) := by decide +kernel
theorem dX11_sends_114 : decode cX11_sends 114 = .ok (.putfield 239, 3) := by decide +kernel
theorem dX11_sends_117 : decode cX11_sends 117 = .ok (.goto 126, 3) := by decide +kernel
theorem dX11_sends_120 : decode cX11_sends 120 = .ok (.aload_n 0, 1) := by decide +kernel
theorem dX11_sends_121 : decode cX11_sends 121 = .ok (.iload 4, 2) := by decide +kernel
theorem dX11_sends_123 : decode cX11_sends 123 = .ok (.invokevirtual 227, 3) := by decide +kernel
theorem dX11_sends_126 : decode cX11_sends 126 = .ok (.ifCond .eq 117, 3) := by decide +kernel
theorem dX11_sends_129 : decode cX11_sends 129 = .ok (.aload_n 0, 1) := by decide +kernel
theorem dX11_sends_130 : decode cX11_sends 130 = .ok (.iconst 1, 1) := by decide +kernel
theorem dX11_sends_131 : decode cX11_sends 131 = .ok (.putfield 220, 3) := by decide +kernel
theorem dX11_sends_134 : decode cX11_sends 134 = .ok (.aload_n 0, 1) := by decide +kernel
theorem dX11_sends_135 : decode cX11_sends 135 = .ok (.getfield 96, 3) := by decide +kernel
theorem dX11_sends_138 : decode cX11_sends 138 = .ok (.iload_n 1, 1) := by decide +kernel
theorem dX11_sends_139 : decode cX11_sends 139 = .ok (.bipush 99, 2) := by decide +kernel
theorem dX11_sends_141 : decode cX11_sends 141 = .ok (.if_icmp .ne 7, 3) := by decide +kernel
theorem dX11_sends_144 : decode cX11_sends 144 = .ok (.iload_n 2, 1) := by decide +kernel
theorem dX11_sends_145 : decode cX11_sends 145 = .ok (.goto 4, 3) := by decide +kernel
theorem dX11_sends_148 : decode cX11_sends 148 = .ok (.iconst 0, 1) := by decide +kernel
theorem dX11_sends_149 : decode cX11_sends 149 = .ok (.dup2, 1) := by decide +kernel
theorem dX11_sends_150 : decode cX11_sends 150 = .ok (.iaload, 1) := by decide +kernel
theorem dX11_sends_151 : decode cX11_sends 151 = .ok (.iload_n 1, 1) := by decide +kernel
theorem dX11_sends_152 : decode cX11_sends 152 = .ok (.bipush 99, 2) := by decide +kernel
theorem dX11_sends_154 : decode cX11_sends 154 = .ok (.if_icmp .ne 12, 3) := by decide +kernel
theorem dX11_sends_157 : decode cX11_sends 157 = .ok (.aload_n 0, 1) := by decide +kernel
theorem dX11_sends_158 : decode cX11_sends 158 = .ok (.getfield 22, 3) := by decide +kernel
theorem dX11_sends_161 : decode cX11_sends 161 = .ok (.iload_n 3, 1) := by decide +kernel
theorem dX11_sends_162 : decode cX11_sends 162 = .ok (.iaload, 1) := by decide +kernel
theorem dX11_sends_163 : decode cX11_sends 163 = .ok (.goto 4, 3) := by decide +kernel
theorem dX11_sends_166 : decode cX11_sends 166 = .ok (.iconst 0, 1) := by decide +kernel
theorem dX11_sends_167 : decode cX11_sends 167 = .ok (.iadd, 1) := by decide +kernel
theorem dX11_sends_168 : decode cX11_sends 168 = .ok (.iastore, 1) := by decide +kernel
theorem dX11_sends_169 : decode cX11_sends 169 = .ok (.aload_n 0, 1) := by decide +kernel
theorem dX11_sends_170 : decode cX11_sends 170 = .ok (.dup, 1) := by decide +kernel
theorem dX11_sends_171 : decode cX11_sends 171 = .ok (.getfield 236, 3) := by decide +kernel
theorem dX11_sends_174 : decode cX11_sends 174 = .ok (.iload_n 1, 1) := by decide +kernel
theorem dX11_sends_175 : decode cX11_sends 175 = .ok (.bipush 119, 2) := by decide +kernel
theorem dX11_sends_177 : decode cX11_sends 177 = .ok (.if_icmp .ne 9, 3) := by decide +kernel
theorem dX11_sends_180 : decode cX11_sends 180 = .ok (.iconst 1, 1) := by decide +kernel
theorem dX11_sends_181 : decode cX11_sends 181 = .ok (.iload_n 2, 1) := by decide +kernel
theorem dX11_sends_182 : decode cX11_sends 182 = .ok (.ishl, 1) := by decide +kernel
theorem dX11_sends_183 : decode cX11_sends 183 = .ok (.goto 4, 3) := by decide +kernel
theorem dX11_sends_186 : decode cX11_sends 186 = .ok (.iconst 0, 1) := by decide +kernel
theorem dX11_sends_187 : decode cX11_sends 187 = .ok (.ior, 1) := by decide +kernel
theorem dX11_sends_188 : decode cX11_sends 188 = .ok (.putfield 236, 3) := by decide +kernel
theorem dX11_sends_191 : decode cX11_sends 191 = .ok (.aload_n 0, 1) := by decide +kernel
theorem dX11_sends_192 : decode cX11_sends 192 = .ok (.getfield 50, 3) := by decide +kernel
theorem dX11_sends_195 : decode cX11_sends 195 = .ok (.aload_n 0, 1) := by decide +kernel
theorem dX11_sends_196 : decode cX11_sends 196 = .ok (.getfield 7, 3) := by decide +kernel
theorem dX11_sends_199 : decode cX11_sends 199 = .ok (.iload_n 3, 1) := by decide +kernel
theorem dX11_sends_200 : decode cX11_sends 200 = .ok (.iaload, 1) := by decide +kernel
theorem dX11_sends_201 : decode cX11_sends 201 = .ok (.iaload, 1) := by decide +kernel
theorem dX11_sends_202 : decode cX11_sends 202 = .ok (.istore 6, 2) := by decide +kernel
theorem dX11_sends_204 : decode cX11_sends 204 = .ok (.aload_n 0, 1) := by decide +kernel
theorem dX11_sends_205 : decode cX11_sends 205 = .ok (.aload_n 0, 1) := by decide +kernel
theorem dX11_sends_206 : decode cX11_sends 206 = .ok (.getfield 242, 3) := by decide +kernel
theorem dX11_sends_209 : decode cX11_sends 209 = .ok (.ifCond .ne 26, 3) := by decide +kernel
theorem dX11_sends_212 : decode cX11_sends 212 = .ok (.iload_n 1, 1) := by decide +kernel
theorem dX11_sends_213 : decode cX11_sends 213 = .ok (.bipush 118, 2) := by decide +kernel
theorem dX11_sends_215 : decode cX11_sends 215 = .ok (.if_icmp .ne 24, 3) := by decide +kernel
theorem dX11_sends_218 : decode cX11_sends 218 = .ok (.iload 6, 2) := by decide +kernel
theorem dX11_sends_220 : decode cX11_sends 220 = .ok (.iconst (-1), 1) := by decide +kernel
theorem dX11_sends_221 : decode cX11_sends 221 = .ok (.if_icmp .eq 14, 3) := by decide +kernel
theorem dX11_sends_224 : decode cX11_sends 224 = .ok (.aload_n 0, 1) := by decide +kernel
theorem dX11_sends_225 : decode cX11_sends 225 = .ok (.getfield 154, 3) := by decide +kernel
theorem dX11_sends_228 : decode cX11_sends 228 = .ok (.iload 6, 2) := by decide +kernel
theorem dX11_sends_230 : decode cX11_sends 230 = .ok (.isub, 1) := by decide +kernel
theorem dX11_sends_231 : decode cX11_sends 231 = .ok (.iload_n 2, 1) := by decide +kernel
theorem dX11_sends_232 : decode cX11_sends 232 = .ok (.if_icmp .lt 7, 3) := by decide +kernel
theorem dX11_sends_235 : decode cX11_sends 235 = .ok (.iconst 1, 1) := by decide +kernel
theorem dX11_sends_236 : decode cX11_sends 236 = .ok (.goto 4, 3) := by decide +kernel
theorem dX11_sends_239 : decode cX11_sends 239 = .ok (.iconst 0, 1) := by decide +kernel
theorem dX11_sends_240 : decode cX11_sends 240 = .ok (.putfield 242, 3) := by decide +kernel
theorem dX11_sends_243 : decode cX11_sends 243 = .ok (.return_, 1) := by decide +kernel
theorem dX11_acts_0 : decode cX11_acts 0 = .ok (.iload_n 1, 1) := by decide +kernel
theorem dX11_acts_1 : decode cX11_acts 1 = .ok (.lookupswitch 196 #[(70, 115), (85, 115), (99, 103), (105, 158), (107, 91), (109, 91), (114, 91), (118, 103), (119, 103), (120, 91)], 91) := by decide +kernel
theorem dX11_acts_92 : decode cX11_acts 92 = .ok (.aload_n 0, 1) := by decide +kernel
theorem dX11_acts_93 : decode cX11_acts 93 = .ok (.iload_n 1, 1) := by decide +kernel
theorem dX11_acts_94 : decode cX11_acts 94 = .ok (.iload_n 2, 1) := by decide +kernel
theorem dX11_acts_95 : decode cX11_acts 95 = .ok (.iload_n 3, 1) := by decide +kernel
theorem dX11_acts_96 : decode cX11_acts 96 = .ok (.iload 4, 2) := by decide +kernel
theorem dX11_acts_98 : decode cX11_acts 98 = .ok (.invokevirtual 245, 3) := by decide +kernel
theorem dX11_acts_101 : decode cX11_acts 101 = .ok (.goto 125, 3) := by decide +kernel
theorem dX11_acts_104 : decode cX11_acts 104 = .ok (.aload_n 0, 1) := by decide +kernel
theorem dX11_acts_105 : decode cX11_acts 105 = .ok (.iload_n 1, 1) := by decide +kernel
theorem dX11_acts_106 : decode cX11_acts 106 = .ok (.iload_n 2, 1) := by decide +kernel
theorem dX11_acts_107 : decode cX11_acts 107 = .ok (.iload_n 3, 1) := by decide +kernel
theorem dX11_acts_108 : decode cX11_acts 108 = .ok (.iload 4, 2) := by decide +kernel
theorem dX11_acts_110 : decode cX11_acts 110 = .ok (.invokevirtual 249, 3) := by decide +kernel
theorem dX11_acts_113 : decode cX11_acts 113 = .ok (.goto 113, 3) := by decide +kernel
theorem dX11_acts_116 : decode cX11_acts 116 = .ok (.aload_n 0, 1) := by decide +kernel
theorem dX11_acts_117 : decode cX11_acts 117 = .ok (.iload 4, 2) := by decide +kernel
theorem dX11_acts_119 : decode cX11_acts 119 = .ok (.invokevirtual 227, 3) := by decide +kernel
theorem dX11_acts_122 : decode cX11_acts 122 = .ok (.ifCond .eq 104, 3) := by decide +kernel
theorem dX11_acts_125 : decode cX11_acts 125 = .ok (.aload_n 0, 1) := by decide +kernel
theorem dX11_acts_126 : decode cX11_acts 126 = .ok (.iload_n 1, 1) := by decide +kernel
theorem dX11_acts_127 : decode cX11_acts 127 = .ok (.bipush 70, 2) := by decide +kernel
theorem dX11_acts_129 : decode cX11_acts 129 = .ok (.if_icmp .ne 14, 3) := by decide +kernel
theorem dX11_acts_132 : decode cX11_acts 132 = .ok (.aload_n 0, 1) := by decide +kernel
theorem dX11_acts_133 : decode cX11_acts 133 = .ok (.getfield 252, 3) := by decide +kernel
theorem dX11_acts_136 : decode cX11_acts 136 = .ok (.iconst 1, 1) := by decide +kernel
theorem dX11_acts_137 : decode cX11_acts 137 = .ok (.iload_n 2, 1) := by decide +kernel
theorem dX11_acts_138 : decode cX11_acts 138 = .ok (.ishl, 1) := by decide +kernel
theorem dX11_acts_139 : decode cX11_acts 139 = .ok (.ior, 1) := by decide +kernel
theorem dX11_acts_140 : decode cX11_acts 140 = .ok (.goto 13, 3) := by decide +kernel
theorem dX11_acts_143 : decode cX11_acts 143 = .ok (.aload_n 0, 1) := by decide +kernel
theorem dX11_acts_144 : decode cX11_acts 144 = .ok (.getfield 252, 3) := by decide +kernel
theorem dX11_acts_147 : decode cX11_acts 147 = .ok (.iconst 1, 1) := by decide +kernel
theorem dX11_acts_148 : decode cX11_acts 148 = .ok (.iload_n 2, 1) := by decide +kernel
theorem dX11_acts_149 : decode cX11_acts 149 = .ok (.ishl, 1) := by decide +kernel
theorem dX11_acts_150 : decode cX11_acts 150 = .ok (.iconst (-1), 1) := by decide +kernel
theorem dX11_acts_151 : decode cX11_acts 151 = .ok (.ixor, 1) := by decide +kernel
theorem dX11_acts_152 : decode cX11_acts 152 = .ok (.iand, 1) := by decide +kernel
theorem dX11_acts_153 : decode cX11_acts 153 = .ok (.putfield 252, 3) := by decide +kernel
theorem dX11_acts_156 : decode cX11_acts 156 = .ok (.goto 70, 3) := by decide +kernel
theorem dX11_acts_159 : decode cX11_acts 159 = .ok (.aload_n 0, 1) := by decide +kernel
theorem dX11_acts_160 : decode cX11_acts 160 = .ok (.getfield 210, 3) := by decide +kernel
theorem dX11_acts_163 : decode cX11_acts 163 = .ok (.iconst 4, 1) := by decide +kernel
theorem dX11_acts_164 : decode cX11_acts 164 = .ok (.if_icmp .ne 16, 3) := by decide +kernel
theorem dX11_acts_167 : decode cX11_acts 167 = .ok (.aload_n 0, 1) := by decide +kernel
theorem dX11_acts_168 : decode cX11_acts 168 = .ok (.dup, 1) := by decide +kernel
theorem dX11_acts_169 : decode cX11_acts 169 = .ok (.getfield 255, 3) := by decide +kernel
theorem dX11_acts_172 : decode cX11_acts 172 = .ok (.iconst 1, 1) := by decide +kernel
theorem dX11_acts_173 : decode cX11_acts 173 = .ok (.iadd, 1) := by decide +kernel
theorem dX11_acts_174 : decode cX11_acts 174 = .ok (.putfield 255, 3) := by decide +kernel
theorem dX11_acts_177 : decode cX11_acts 177 = .ok (.goto 49, 3) := by decide +kernel
theorem dX11_acts_180 : decode cX11_acts 180 = .ok (.aload_n 0, 1) := by decide +kernel
theorem dX11_acts_181 : decode cX11_acts 181 = .ok (.iload 4, 2) := by decide +kernel
theorem dX11_acts_183 : decode cX11_acts 183 = .ok (.invokevirtual 227, 3) := by decide +kernel
theorem dX11_acts_186 : decode cX11_acts 186 = .ok (.ifCond .eq 40, 3) := by decide +kernel
theorem dX11_acts_189 : decode cX11_acts 189 = .ok (.aload_n 0, 1) := by decide +kernel
theorem dX11_acts_190 : decode cX11_acts 190 = .ok (.iload_n 2, 1) := by decide +kernel
theorem dX11_acts_191 : decode cX11_acts 191 = .ok (.invokevirtual 258, 3) := by decide +kernel
theorem dX11_acts_194 : decode cX11_acts 194 = .ok (.goto 32, 3) := by decide +kernel
theorem dX11_acts_197 : decode cX11_acts 197 = .ok (.aload_n 0, 1) := by decide +kernel
theorem dX11_acts_198 : decode cX11_acts 198 = .ok (.iload 4, 2) := by decide +kernel
theorem dX11_acts_200 : decode cX11_acts 200 = .ok (.invokevirtual 227, 3) := by decide +kernel
theorem dX11_acts_203 : decode cX11_acts 203 = .ok (.ifCond .eq 23, 3) := by decide +kernel
theorem dX11_acts_206 : decode cX11_acts 206 = .ok (.aload_n 0, 1) := by decide +kernel
theorem dX11_acts_207 : decode cX11_acts 207 = .ok (.iload_n 1, 1) := by decide +kernel
theorem dX11_acts_208 : decode cX11_acts 208 = .ok (.bipush 115, 2) := by decide +kernel
theorem dX11_acts_210 : decode cX11_acts 210 = .ok (.if_icmp .ne 12, 3) := by decide +kernel
theorem dX11_acts_213 : decode cX11_acts 213 = .ok (.aload_n 0, 1) := by decide +kernel
theorem dX11_acts_214 : decode cX11_acts 214 = .ok (.getfield 210, 3) := by decide +kernel
theorem dX11_acts_217 : decode cX11_acts 217 = .ok (.iconst 1, 1) := by decide +kernel
theorem dX11_acts_218 : decode cX11_acts 218 = .ok (.isub, 1) := by decide +kernel
theorem dX11_acts_219 : decode cX11_acts 219 = .ok (.goto 4, 3) := by decide +kernel
theorem dX11_acts_222 : decode cX11_acts 222 = .ok (.iconst (-1), 1) := by decide +kernel
theorem dX11_acts_223 : decode cX11_acts 223 = .ok (.putfield 210, 3) := by decide +kernel
theorem dX11_acts_226 : decode cX11_acts 226 = .ok (.return_, 1) := by decide +kernel
theorem dX11_begins_0 : decode cX11_begins 0 = .ok (.aload_n 0, 1) := by decide +kernel
theorem dX11_begins_1 : decode cX11_begins 1 = .ok (.dup, 1) := by decide +kernel
theorem dX11_begins_2 : decode cX11_begins 2 = .ok (.getfield 210, 3) := by decide +kernel
theorem dX11_begins_5 : decode cX11_begins 5 = .ok (.iconst 1, 1) := by decide +kernel
theorem dX11_begins_6 : decode cX11_begins 6 = .ok (.iadd, 1) := by decide +kernel
theorem dX11_begins_7 : decode cX11_begins 7 = .ok (.putfield 210, 3) := by decide +kernel
theorem dX11_begins_10 : decode cX11_begins 10 = .ok (.aload_n 0, 1) := by decide +kernel
theorem dX11_begins_11 : decode cX11_begins 11 = .ok (.getfield 87, 3) := by decide +kernel
theorem dX11_begins_14 : decode cX11_begins 14 = .ok (.aload_n 0, 1) := by decide +kernel
theorem dX11_begins_15 : decode cX11_begins 15 = .ok (.getfield 210, 3) := by decide +kernel
theorem dX11_begins_18 : decode cX11_begins 18 = .ok (.iload_n 1, 1) := by decide +kernel
theorem dX11_begins_19 : decode cX11_begins 19 = .ok (.iastore, 1) := by decide +kernel
theorem dX11_begins_20 : decode cX11_begins 20 = .ok (.aload_n 0, 1) := by decide +kernel
theorem dX11_begins_21 : decode cX11_begins 21 = .ok (.getfield 90, 3) := by decide +kernel
theorem dX11_begins_24 : decode cX11_begins 24 = .ok (.aload_n 0, 1) := by decide +kernel
theorem dX11_begins_25 : decode cX11_begins 25 = .ok (.getfield 210, 3) := by decide +kernel
theorem dX11_begins_28 : decode cX11_begins 28 = .ok (.iconst 0, 1) := by decide +kernel
theorem dX11_begins_29 : decode cX11_begins 29 = .ok (.iastore, 1) := by decide +kernel
theorem dX11_begins_30 : decode cX11_begins 30 = .ok (.aload_n 0, 1) := by decide +kernel
theorem dX11_begins_31 : decode cX11_begins 31 = .ok (.getfield 93, 3) := by decide +kernel
theorem dX11_begins_34 : decode cX11_begins 34 = .ok (.aload_n 0, 1) := by decide +kernel
theorem dX11_begins_35 : decode cX11_begins 35 = .ok (.getfield 210, 3) := by decide +kernel
theorem dX11_begins_38 : decode cX11_begins 38 = .ok (.iconst (-1), 1) := by decide +kernel
theorem dX11_begins_39 : decode cX11_begins 39 = .ok (.iastore, 1) := by decide +kernel
theorem dX11_begins_40 : decode cX11_begins 40 = .ok (.return_, 1) := by decide +kernel
theorem dX11_runs_0 : decode cX11_runs 0 = .ok (.aload_n 0, 1) := by decide +kernel
theorem dX11_runs_1 : decode cX11_runs 1 = .ok (.iconst (-1), 1) := by decide +kernel
theorem dX11_runs_2 : decode cX11_runs 2 = .ok (.putfield 210, 3) := by decide +kernel
theorem dX11_runs_5 : decode cX11_runs 5 = .ok (.aload_n 0, 1) := by decide +kernel
theorem dX11_runs_6 : decode cX11_runs 6 = .ok (.bipush 45, 2) := by decide +kernel
theorem dX11_runs_8 : decode cX11_runs 8 = .ok (.putfield 213, 3) := by decide +kernel
theorem dX11_runs_11 : decode cX11_runs 11 = .ok (.aload_n 0, 1) := by decide +kernel
theorem dX11_runs_12 : decode cX11_runs 12 = .ok (.iconst 0, 1) := by decide +kernel
theorem dX11_runs_13 : decode cX11_runs 13 = .ok (.putfield 217, 3) := by decide +kernel
theorem dX11_runs_16 : decode cX11_runs 16 = .ok (.aload_n 0, 1) := by decide +kernel
theorem dX11_runs_17 : decode cX11_runs 17 = .ok (.iconst 0, 1) := by decide +kernel
theorem dX11_runs_18 : decode cX11_runs 18 = .ok (.putfield 252, 3) := by decide +kernel
theorem dX11_runs_21 : decode cX11_runs 21 = .ok (.aload_n 0, 1) := by decide +kernel
theorem dX11_runs_22 : decode cX11_runs 22 = .ok (.iconst 0, 1) := by decide +kernel
theorem dX11_runs_23 : decode cX11_runs 23 = .ok (.putfield 220, 3) := by decide +kernel
theorem dX11_runs_26 : decode cX11_runs 26 = .ok (.aload_n 0, 1) := by decide +kernel
theorem dX11_runs_27 : decode cX11_runs 27 = .ok (.iconst 0, 1) := by decide +kernel
theorem dX11_runs_28 : decode cX11_runs 28 = .ok (.putfield 236, 3) := by decide +kernel
theorem dX11_runs_31 : decode cX11_runs 31 = .ok (.aload_n 0, 1) := by decide +kernel
theorem dX11_runs_32 : decode cX11_runs 32 = .ok (.iconst 0, 1) := by decide +kernel
theorem dX11_runs_33 : decode cX11_runs 33 = .ok (.putfield 242, 3) := by decide +kernel
theorem dX11_runs_36 : decode cX11_runs 36 = .ok (.aload_n 0, 1) := by decide +kernel
theorem dX11_runs_37 : decode cX11_runs 37 = .ok (.iconst 0, 1) := by decide +kernel
theorem dX11_runs_38 : decode cX11_runs 38 = .ok (.putfield 207, 3) := by decide +kernel
theorem dX11_runs_41 : decode cX11_runs 41 = .ok (.aload_n 0, 1) := by decide +kernel
theorem dX11_runs_42 : decode cX11_runs 42 = .ok (.iconst 0, 1) := by decide +kernel
theorem dX11_runs_43 : decode cX11_runs 43 = .ok (.putfield 224, 3) := by decide +kernel
theorem dX11_runs_46 : decode cX11_runs 46 = .ok (.aload_n 0, 1) := by decide +kernel
theorem dX11_runs_47 : decode cX11_runs 47 = .ok (.iconst 0, 1) := by decide +kernel
theorem dX11_runs_48 : decode cX11_runs 48 = .ok (.putfield 255, 3) := by decide +kernel
theorem dX11_runs_51 : decode cX11_runs 51 = .ok (.aload_n 0, 1) := by decide +kernel
theorem dX11_runs_52 : decode cX11_runs 52 = .ok (.iconst 0, 1) := by decide +kernel
theorem dX11_runs_53 : decode cX11_runs 53 = .ok (.putfield 239, 3) := by decide +kernel
theorem dX11_runs_56 : decode cX11_runs 56 = .ok (.aload_n 0, 1) := by decide +kernel
theorem dX11_runs_57 : decode cX11_runs 57 = .ok (.iconst 0, 1) := by decide +kernel
theorem dX11_runs_58 : decode cX11_runs 58 = .ok (.putfield 233, 3) := by decide +kernel
theorem dX11_runs_61 : decode cX11_runs 61 = .ok (.iconst 0, 1) := by decide +kernel
theorem dX11_runs_62 : decode cX11_runs 62 = .ok (.istore_n 3, 1) := by decide +kernel
theorem dX11_runs_63 : decode cX11_runs 63 = .ok (.iload_n 3, 1) := by decide +kernel
theorem dX11_runs_64 : decode cX11_runs 64 = .ok (.bipush 8, 2) := by decide +kernel
theorem dX11_runs_66 : decode cX11_runs 66 = .ok (.if_icmp .ge 16, 3) := by decide +kernel
theorem dX11_runs_69 : decode cX11_runs 69 = .ok (.aload_n 0, 1) := by decide +kernel
theorem dX11_runs_70 : decode cX11_runs 70 = .ok (.getfield 96, 3) := by decide +kernel
theorem dX11_runs_73 : decode cX11_runs 73 = .ok (.iload_n 3, 1) := by decide +kernel
theorem dX11_runs_74 : decode cX11_runs 74 = .ok (.iconst 0, 1) := by decide +kernel
theorem dX11_runs_75 : decode cX11_runs 75 = .ok (.iastore, 1) := by decide +kernel
theorem dX11_runs_76 : decode cX11_runs 76 = .ok (.iinc 3 1, 3) := by decide +kernel
theorem dX11_runs_79 : decode cX11_runs 79 = .ok (.goto (-16), 3) := by decide +kernel
theorem dX11_runs_82 : decode cX11_runs 82 = .ok (.aload_n 0, 1) := by decide +kernel
theorem dX11_runs_83 : decode cX11_runs 83 = .ok (.iload_n 1, 1) := by decide +kernel
theorem dX11_runs_84 : decode cX11_runs 84 = .ok (.invokevirtual 258, 3) := by decide +kernel
theorem dX11_runs_87 : decode cX11_runs 87 = .ok (.aload_n 0, 1) := by decide +kernel
theorem dX11_runs_88 : decode cX11_runs 88 = .ok (.getfield 210, 3) := by decide +kernel
theorem dX11_runs_91 : decode cX11_runs 91 = .ok (.ifCond .lt 257, 3) := by decide +kernel
theorem dX11_runs_94 : decode cX11_runs 94 = .ok (.aload_n 0, 1) := by decide +kernel
theorem dX11_runs_95 : decode cX11_runs 95 = .ok (.getfield 87, 3) := by decide +kernel
theorem dX11_runs_98 : decode cX11_runs 98 = .ok (.aload_n 0, 1) := by decide +kernel
theorem dX11_runs_99 : decode cX11_runs 99 = .ok (.getfield 210, 3) := by decide +kernel
theorem dX11_runs_102 : decode cX11_runs 102 = .ok (.iaload, 1) := by decide +kernel
theorem dX11_runs_103 : decode cX11_runs 103 = .ok (.istore_n 3, 1) := by decide +kernel
theorem dX11_runs_104 : decode cX11_runs 104 = .ok (.bipush 12, 2) := by decide +kernel
theorem dX11_runs_106 : decode cX11_runs 106 = .ok (.iload_n 3, 1) := by decide +kernel
theorem dX11_runs_107 : decode cX11_runs 107 = .ok (.imul, 1) := by decide +kernel
theorem dX11_runs_108 : decode cX11_runs 108 = .ok (.aload_n 0, 1) := by decide +kernel
theorem dX11_runs_109 : decode cX11_runs 109 = .ok (.getfield 90, 3) := by decide +kernel
theorem dX11_runs_112 : decode cX11_runs 112 = .ok (.aload_n 0, 1) := by decide +kernel
theorem dX11_runs_113 : decode cX11_runs 113 = .ok (.getfield 210, 3) := by decide +kernel
theorem dX11_runs_116 : decode cX11_runs 116 = .ok (.iaload, 1) := by decide +kernel
theorem dX11_runs_117 : decode cX11_runs 117 = .ok (.iadd, 1) := by decide +kernel
theorem dX11_runs_118 : decode cX11_runs 118 = .ok (.istore 4, 2) := by decide +kernel
theorem dX11_runs_120 : decode cX11_runs 120 = .ok (.aload_n 0, 1) := by decide +kernel
theorem dX11_runs_121 : decode cX11_runs 121 = .ok (.getfield 90, 3) := by decide +kernel
theorem dX11_runs_124 : decode cX11_runs 124 = .ok (.aload_n 0, 1) := by decide +kernel
theorem dX11_runs_125 : decode cX11_runs 125 = .ok (.getfield 210, 3) := by decide +kernel
theorem dX11_runs_128 : decode cX11_runs 128 = .ok (.iaload, 1) := by decide +kernel
theorem dX11_runs_129 : decode cX11_runs 129 = .ok (.aload_n 0, 1) := by decide +kernel
theorem dX11_runs_130 : decode cX11_runs 130 = .ok (.getfield 72, 3) := by decide +kernel
theorem dX11_runs_133 : decode cX11_runs 133 = .ok (.iload_n 3, 1) := by decide +kernel
theorem dX11_runs_134 : decode cX11_runs 134 = .ok (.iaload, 1) := by decide +kernel
theorem dX11_runs_135 : decode cX11_runs 135 = .ok (.if_icmp .lt 16, 3) := by decide +kernel
theorem dX11_runs_138 : decode cX11_runs 138 = .ok (.aload_n 0, 1) := by decide +kernel
theorem dX11_runs_139 : decode cX11_runs 139 = .ok (.dup, 1) := by decide +kernel
theorem dX11_runs_140 : decode cX11_runs 140 = .ok (.getfield 210, 3) := by decide +kernel
theorem dX11_runs_143 : decode cX11_runs 143 = .ok (.iconst 1, 1) := by decide +kernel
theorem dX11_runs_144 : decode cX11_runs 144 = .ok (.isub, 1) := by decide +kernel
theorem dX11_runs_145 : decode cX11_runs 145 = .ok (.putfield 210, 3) := by decide +kernel
theorem dX11_runs_148 : decode cX11_runs 148 = .ok (.goto 197, 3) := by decide +kernel
theorem dX11_runs_151 : decode cX11_runs 151 = .ok (.aload_n 0, 1) := by decide +kernel
theorem dX11_runs_152 : decode cX11_runs 152 = .ok (.getfield 93, 3) := by decide +kernel
theorem dX11_runs_155 : decode cX11_runs 155 = .ok (.aload_n 0, 1) := by decide +kernel
theorem dX11_runs_156 : decode cX11_runs 156 = .ok (.getfield 210, 3) := by decide +kernel
theorem dX11_runs_159 : decode cX11_runs 159 = .ok (.iaload, 1) := by decide +kernel
theorem dX11_runs_160 : decode cX11_runs 160 = .ok (.iconst (-1), 1) := by decide +kernel
theorem dX11_runs_161 : decode cX11_runs 161 = .ok (.if_icmp .ne 65, 3) := by decide +kernel
theorem dX11_runs_164 : decode cX11_runs 164 = .ok (.aload_n 0, 1) := by decide +kernel
theorem dX11_runs_165 : decode cX11_runs 165 = .ok (.aload_n 0, 1) := by decide +kernel
theorem dX11_runs_166 : decode cX11_runs 166 = .ok (.getfield 75, 3) := by decide +kernel
theorem dX11_runs_169 : decode cX11_runs 169 = .ok (.iload 4, 2) := by decide +kernel
theorem dX11_runs_171 : decode cX11_runs 171 = .ok (.iaload, 1) := by decide +kernel
theorem dX11_runs_172 : decode cX11_runs 172 = .ok (.iload_n 2, 1) := by decide +kernel
theorem dX11_runs_173 : decode cX11_runs 173 = .ok (.aload_n 0, 1) := by decide +kernel
theorem dX11_runs_174 : decode cX11_runs 174 = .ok (.getfield 252, 3) := by decide +kernel
theorem dX11_runs_177 : decode cX11_runs 177 = .ok (.invokevirtual 194, 3) := by decide +kernel
theorem dX11_runs_180 : decode cX11_runs 180 = .ok (.istore 5, 2) := by decide +kernel
theorem dX11_runs_182 : decode cX11_runs 182 = .ok (.aload_n 0, 1) := by decide +kernel
theorem dX11_runs_183 : decode cX11_runs 183 = .ok (.getfield 93, 3) := by decide +kernel
theorem dX11_runs_186 : decode cX11_runs 186 = .ok (.aload_n 0, 1) := by decide +kernel
theorem dX11_runs_187 : decode cX11_runs 187 = .ok (.getfield 210, 3) := by decide +kernel
theorem dX11_runs_190 : decode cX11_runs 190 = .ok (.iload 5, 2) := by decide +kernel
theorem dX11_runs_192 : decode cX11_runs 192 = .ok (.ifCond .eq 7, 3) := by decide +kernel
theorem dX11_runs_195 : decode cX11_runs 195 = .ok (.iconst 0, 1) := by decide +kernel
theorem dX11_runs_196 : decode cX11_runs 196 = .ok (.goto 4, 3) := by decide +kernel
theorem dX11_runs_199 : decode cX11_runs 199 = .ok (.iconst (-1), 1) := by decide +kernel
theorem dX11_runs_200 : decode cX11_runs 200 = .ok (.iastore, 1) := by decide +kernel
theorem dX11_runs_201 : decode cX11_runs 201 = .ok (.aload_n 0, 1) := by decide +kernel
theorem dX11_runs_202 : decode cX11_runs 202 = .ok (.getfield 90, 3) := by decide +kernel
theorem dX11_runs_205 : decode cX11_runs 205 = .ok (.aload_n 0, 1) := by decide +kernel
theorem dX11_runs_206 : decode cX11_runs 206 = .ok (.getfield 210, 3) := by decide +kernel
theorem dX11_runs_209 : decode cX11_runs 209 = .ok (.dup2, 1) := by decide +kernel
theorem dX11_runs_210 : decode cX11_runs 210 = .ok (.iaload, 1) := by decide +kernel
theorem dX11_runs_211 : decode cX11_runs 211 = .ok (.iload 5, 2) := by decide +kernel
theorem dX11_runs_213 : decode cX11_runs 213 = .ok (.ifCond .eq 7, 3) := by decide +kernel
theorem dX11_runs_216 : decode cX11_runs 216 = .ok (.iconst 0, 1) := by decide +kernel
theorem dX11_runs_217 : decode cX11_runs 217 = .ok (.goto 4, 3) := by decide +kernel
theorem dX11_runs_220 : decode cX11_runs 220 = .ok (.iconst 1, 1) := by decide +kernel
theorem dX11_runs_221 : decode cX11_runs 221 = .ok (.iadd, 1) := by decide +kernel
theorem dX11_runs_222 : decode cX11_runs 222 = .ok (.iastore, 1) := by decide +kernel
theorem dX11_runs_223 : decode cX11_runs 223 = .ok (.goto 122, 3) := by decide +kernel
theorem dX11_runs_226 : decode cX11_runs 226 = .ok (.aload_n 0, 1) := by decide +kernel
theorem dX11_runs_227 : decode cX11_runs 227 = .ok (.getfield 93, 3) := by decide +kernel
theorem dX11_runs_230 : decode cX11_runs 230 = .ok (.aload_n 0, 1) := by decide +kernel
theorem dX11_runs_231 : decode cX11_runs 231 = .ok (.getfield 210, 3) := by decide +kernel
theorem dX11_runs_234 : decode cX11_runs 234 = .ok (.iaload, 1) := by decide +kernel
theorem dX11_runs_235 : decode cX11_runs 235 = .ok (.aload_n 0, 1) := by decide +kernel
theorem dX11_runs_236 : decode cX11_runs 236 = .ok (.getfield 78, 3) := by decide +kernel
theorem dX11_runs_239 : decode cX11_runs 239 = .ok (.iload 4, 2) := by decide +kernel
theorem dX11_runs_241 : decode cX11_runs 241 = .ok (.iaload, 1) := by decide +kernel
theorem dX11_runs_242 : decode cX11_runs 242 = .ok (.if_icmp .ne 29, 3) := by decide +kernel
theorem dX11_runs_245 : decode cX11_runs 245 = .ok (.aload_n 0, 1) := by decide +kernel
theorem dX11_runs_246 : decode cX11_runs 246 = .ok (.getfield 90, 3) := by decide +kernel
theorem dX11_runs_249 : decode cX11_runs 249 = .ok (.aload_n 0, 1) := by decide +kernel
theorem dX11_runs_250 : decode cX11_runs 250 = .ok (.getfield 210, 3) := by decide +kernel
theorem dX11_runs_253 : decode cX11_runs 253 = .ok (.dup2, 1) := by decide +kernel
theorem dX11_runs_254 : decode cX11_runs 254 = .ok (.iaload, 1) := by decide +kernel
theorem dX11_runs_255 : decode cX11_runs 255 = .ok (.iconst 1, 1) := by decide +kernel
theorem dX11_runs_256 : decode cX11_runs 256 = .ok (.iadd, 1) := by decide +kernel
theorem dX11_runs_257 : decode cX11_runs 257 = .ok (.iastore, 1) := by decide +kernel
theorem dX11_runs_258 : decode cX11_runs 258 = .ok (.aload_n 0, 1) := by decide +kernel
theorem dX11_runs_259 : decode cX11_runs 259 = .ok (.getfield 93, 3) := by decide +kernel
theorem dX11_runs_262 : decode cX11_runs 262 = .ok (.aload_n 0, 1) := by decide +kernel
theorem dX11_runs_263 : decode cX11_runs 263 = .ok (.getfield 210, 3) := by decide +kernel
theorem dX11_runs_266 : decode cX11_runs 266 = .ok (.iconst (-1), 1) := by decide +kernel
theorem dX11_runs_267 : decode cX11_runs 267 = .ok (.iastore, 1) := by decide +kernel
theorem dX11_runs_268 : decode cX11_runs 268 = .ok (.goto 77, 3) := by decide +kernel
theorem dX11_runs_271 : decode cX11_runs 271 = .ok (.aload_n 0, 1) := by decide +kernel
theorem dX11_runs_272 : decode cX11_runs 272 = .ok (.getfield 93, 3) := by decide +kernel
theorem dX11_runs_275 : decode cX11_runs 275 = .ok (.aload_n 0, 1) := by decide +kernel
theorem dX11_runs_276 : decode cX11_runs 276 = .ok (.getfield 210, 3) := by decide +kernel
theorem dX11_runs_279 : decode cX11_runs 279 = .ok (.iaload, 1) := by decide +kernel
theorem dX11_runs_280 : decode cX11_runs 280 = .ok (.istore 5, 2) := by decide +kernel
theorem dX11_runs_282 : decode cX11_runs 282 = .ok (.aload_n 0, 1) := by decide +kernel
theorem dX11_runs_283 : decode cX11_runs 283 = .ok (.getfield 93, 3) := by decide +kernel
theorem dX11_runs_286 : decode cX11_runs 286 = .ok (.aload_n 0, 1) := by decide +kernel
theorem dX11_runs_287 : decode cX11_runs 287 = .ok (.getfield 210, 3) := by decide +kernel
theorem dX11_runs_290 : decode cX11_runs 290 = .ok (.dup2, 1) := by decide +kernel
theorem dX11_runs_291 : decode cX11_runs 291 = .ok (.iaload, 1) := by decide +kernel
theorem dX11_runs_292 : decode cX11_runs 292 = .ok (.iconst 1, 1) := by decide +kernel
theorem dX11_runs_293 : decode cX11_runs 293 = .ok (.iadd, 1) := by decide +kernel
theorem dX11_runs_294 : decode cX11_runs 294 = .ok (.iastore, 1) := by decide +kernel
theorem dX11_runs_295 : decode cX11_runs 295 = .ok (.aload_n 0, 1) := by decide +kernel
theorem dX11_runs_296 : decode cX11_runs 296 = .ok (.aload_n 0, 1) := by decide +kernel
theorem dX11_runs_297 : decode cX11_runs 297 = .ok (.getfield 81, 3) := by decide +kernel
theorem dX11_runs_300 : decode cX11_runs 300 = .ok (.iconst 5, 1) := by decide +kernel
theorem dX11_runs_301 : decode cX11_runs 301 = .ok (.iload 4, 2) := by decide +kernel
theorem dX11_runs_303 : decode cX11_runs 303 = .ok (.imul, 1) := by decide +kernel
theorem dX11_runs_304 : decode cX11_runs 304 = .ok (.iload 5, 2) := by decide +kernel
theorem dX11_runs_306 : decode cX11_runs 306 = .ok (.iadd, 1) := by decide +kernel
theorem dX11_runs_307 : decode cX11_runs 307 = .ok (.caload, 1) := by decide +kernel
theorem dX11_runs_308 : decode cX11_runs 308 = .ok (.aload_n 0, 1) := by decide +kernel
theorem dX11_runs_309 : decode cX11_runs 309 = .ok (.getfield 84, 3) := by decide +kernel
theorem dX11_runs_312 : decode cX11_runs 312 = .ok (.iconst 5, 1) := by decide +kernel
theorem dX11_runs_313 : decode cX11_runs 313 = .ok (.iload 4, 2) := by decide +kernel
theorem dX11_runs_315 : decode cX11_runs 315 = .ok (.imul, 1) := by decide +kernel
theorem dX11_runs_316 : decode cX11_runs 316 = .ok (.iload 5, 2) := by decide +kernel
theorem dX11_runs_318 : decode cX11_runs 318 = .ok (.iadd, 1) := by decide +kernel
theorem dX11_runs_319 : decode cX11_runs 319 = .ok (.iaload, 1) := by decide +kernel
theorem dX11_runs_320 : decode cX11_runs 320 = .ok (.iload_n 2, 1) := by decide +kernel
theorem dX11_runs_321 : decode cX11_runs 321 = .ok (.sipush 1000, 3) := by decide +kernel
theorem dX11_runs_324 : decode cX11_runs 324 = .ok (.iload_n 3, 1) := by decide +kernel
theorem dX11_runs_325 : decode cX11_runs 325 = .ok (.imul, 1) := by decide +kernel
theorem dX11_runs_326 : decode cX11_runs 326 = .ok (.bipush 10, 2) := by decide +kernel
theorem dX11_runs_328 : decode cX11_runs 328 = .ok (.aload_n 0, 1) := by decide +kernel
theorem dX11_runs_329 : decode cX11_runs 329 = .ok (.getfield 90, 3) := by decide +kernel
theorem dX11_runs_332 : decode cX11_runs 332 = .ok (.aload_n 0, 1) := by decide +kernel
theorem dX11_runs_333 : decode cX11_runs 333 = .ok (.getfield 210, 3) := by decide +kernel
theorem dX11_runs_336 : decode cX11_runs 336 = .ok (.iaload, 1) := by decide +kernel
theorem dX11_runs_337 : decode cX11_runs 337 = .ok (.imul, 1) := by decide +kernel
theorem dX11_runs_338 : decode cX11_runs 338 = .ok (.iadd, 1) := by decide +kernel
theorem dX11_runs_339 : decode cX11_runs 339 = .ok (.iload 5, 2) := by decide +kernel
theorem dX11_runs_341 : decode cX11_runs 341 = .ok (.iadd, 1) := by decide +kernel
theorem dX11_runs_342 : decode cX11_runs 342 = .ok (.invokevirtual 262, 3) := by decide +kernel
theorem dX11_runs_345 : decode cX11_runs 345 = .ok (.goto (-258), 3) := by decide +kernel
theorem dX11_runs_348 : decode cX11_runs 348 = .ok (.aload_n 0, 1) := by decide +kernel
theorem dX11_runs_349 : decode cX11_runs 349 = .ok (.aload_n 0, 1) := by decide +kernel
theorem dX11_runs_350 : decode cX11_runs 350 = .ok (.getfield 213, 3) := by decide +kernel
theorem dX11_runs_353 : decode cX11_runs 353 = .ok (.bipush 120, 2) := by decide +kernel
theorem dX11_runs_355 : decode cX11_runs 355 = .ok (.if_icmp .ne 8, 3) := by decide +kernel
theorem dX11_runs_358 : decode cX11_runs 358 = .ok (.bipush 8, 2) := by decide +kernel
theorem dX11_runs_360 : decode cX11_runs 360 = .ok (.goto 21, 3) := by decide +kernel
theorem dX11_runs_363 : decode cX11_runs 363 = .ok (.aload_n 0, 1) := by decide +kernel
theorem dX11_runs_364 : decode cX11_runs 364 = .ok (.getfield 213, 3) := by decide +kernel
theorem dX11_runs_367 : decode cX11_runs 367 = .ok (.bipush 114, 2) := by decide +kernel
theorem dX11_runs_369 : decode cX11_runs 369 = .ok (.if_icmp .ne 8, 3) := by decide +kernel
theorem dX11_runs_372 : decode cX11_runs 372 = .ok (.bipush 9, 2) := by decide +kernel
theorem dX11_runs_374 : decode cX11_runs 374 = .ok (.goto 7, 3) := by decide +kernel
theorem dX11_runs_377 : decode cX11_runs 377 = .ok (.aload_n 0, 1) := by decide +kernel
theorem dX11_runs_378 : decode cX11_runs 378 = .ok (.getfield 217, 3) := by decide +kernel
theorem dX11_runs_381 : decode cX11_runs 381 = .ok (.putfield 265, 3) := by decide +kernel
theorem dX11_runs_384 : decode cX11_runs 384 = .ok (.return_, 1) := by decide +kernel
theorem dX11_keeps_0 : decode cX11_keeps 0 = .ok (.aload_n 0, 1) := by decide +kernel
theorem dX11_keeps_1 : decode cX11_keeps 1 = .ok (.aload_n 0, 1) := by decide +kernel
theorem dX11_keeps_2 : decode cX11_keeps 2 = .ok (.getfield 207, 3) := by decide +kernel
theorem dX11_keeps_5 : decode cX11_keeps 5 = .ok (.putfield 268, 3) := by decide +kernel
theorem dX11_keeps_8 : decode cX11_keeps 8 = .ok (.aload_n 0, 1) := by decide +kernel
theorem dX11_keeps_9 : decode cX11_keeps 9 = .ok (.aload_n 0, 1) := by decide +kernel
theorem dX11_keeps_10 : decode cX11_keeps 10 = .ok (.getfield 224, 3) := by decide +kernel
theorem dX11_keeps_13 : decode cX11_keeps 13 = .ok (.putfield 271, 3) := by decide +kernel
theorem dX11_keeps_16 : decode cX11_keeps 16 = .ok (.aload_n 0, 1) := by decide +kernel
theorem dX11_keeps_17 : decode cX11_keeps 17 = .ok (.aload_n 0, 1) := by decide +kernel
theorem dX11_keeps_18 : decode cX11_keeps 18 = .ok (.getfield 255, 3) := by decide +kernel
theorem dX11_keeps_21 : decode cX11_keeps 21 = .ok (.putfield 274, 3) := by decide +kernel
theorem dX11_keeps_24 : decode cX11_keeps 24 = .ok (.aload_n 0, 1) := by decide +kernel
theorem dX11_keeps_25 : decode cX11_keeps 25 = .ok (.aload_n 0, 1) := by decide +kernel
theorem dX11_keeps_26 : decode cX11_keeps 26 = .ok (.getfield 239, 3) := by decide +kernel
theorem dX11_keeps_29 : decode cX11_keeps 29 = .ok (.putfield 277, 3) := by decide +kernel
theorem dX11_keeps_32 : decode cX11_keeps 32 = .ok (.aload_n 0, 1) := by decide +kernel
theorem dX11_keeps_33 : decode cX11_keeps 33 = .ok (.aload_n 0, 1) := by decide +kernel
theorem dX11_keeps_34 : decode cX11_keeps 34 = .ok (.getfield 233, 3) := by decide +kernel
theorem dX11_keeps_37 : decode cX11_keeps 37 = .ok (.putfield 280, 3) := by decide +kernel
theorem dX11_keeps_40 : decode cX11_keeps 40 = .ok (.aload_n 0, 1) := by decide +kernel
theorem dX11_keeps_41 : decode cX11_keeps 41 = .ok (.aload_n 0, 1) := by decide +kernel
theorem dX11_keeps_42 : decode cX11_keeps 42 = .ok (.getfield 252, 3) := by decide +kernel
theorem dX11_keeps_45 : decode cX11_keeps 45 = .ok (.putfield 283, 3) := by decide +kernel
theorem dX11_keeps_48 : decode cX11_keeps 48 = .ok (.iconst 0, 1) := by decide +kernel
theorem dX11_keeps_49 : decode cX11_keeps 49 = .ok (.istore_n 1, 1) := by decide +kernel
theorem dX11_keeps_50 : decode cX11_keeps 50 = .ok (.iload_n 1, 1) := by decide +kernel
theorem dX11_keeps_51 : decode cX11_keeps 51 = .ok (.aload_n 0, 1) := by decide +kernel
theorem dX11_keeps_52 : decode cX11_keeps 52 = .ok (.getfield 207, 3) := by decide +kernel
theorem dX11_keeps_55 : decode cX11_keeps 55 = .ok (.if_icmp .ge 21, 3) := by decide +kernel
theorem dX11_keeps_58 : decode cX11_keeps 58 = .ok (.aload_n 0, 1) := by decide +kernel
theorem dX11_keeps_59 : decode cX11_keeps 59 = .ok (.getfield 102, 3) := by decide +kernel
theorem dX11_keeps_62 : decode cX11_keeps 62 = .ok (.iload_n 1, 1) := by decide +kernel
theorem dX11_keeps_63 : decode cX11_keeps 63 = .ok (.aload_n 0, 1) := by decide +kernel
theorem dX11_keeps_64 : decode cX11_keeps 64 = .ok (.getfield 99, 3) := by decide +kernel
theorem dX11_keeps_67 : decode cX11_keeps 67 = .ok (.iload_n 1, 1) := by decide +kernel
theorem dX11_keeps_68 : decode cX11_keeps 68 = .ok (.iaload, 1) := by decide +kernel
theorem dX11_keeps_69 : decode cX11_keeps 69 = .ok (.iastore, 1) := by decide +kernel
theorem dX11_keeps_70 : decode cX11_keeps 70 = .ok (.iinc 1 1, 3) := by decide +kernel
theorem dX11_keeps_73 : decode cX11_keeps 73 = .ok (.goto (-23), 3) := by decide +kernel
theorem dX11_keeps_76 : decode cX11_keeps 76 = .ok (.aload_n 0, 1) := by decide +kernel
theorem dX11_keeps_77 : decode cX11_keeps 77 = .ok (.getfield 265, 3) := by decide +kernel
theorem dX11_keeps_80 : decode cX11_keeps 80 = .ok (.ireturn, 1) := by decide +kernel
theorem dX11_deliver_0 : decode cX11_deliver 0 = .ok (.aload_n 0, 1) := by decide +kernel
theorem dX11_deliver_1 : decode cX11_deliver 1 = .ok (.iconst 0, 1) := by decide +kernel
theorem dX11_deliver_2 : decode cX11_deliver 2 = .ok (.putfield 138, 3) := by decide +kernel
theorem dX11_deliver_5 : decode cX11_deliver 5 = .ok (.aload_n 0, 1) := by decide +kernel
theorem dX11_deliver_6 : decode cX11_deliver 6 = .ok (.iload_n 1, 1) := by decide +kernel
theorem dX11_deliver_7 : decode cX11_deliver 7 = .ok (.invokevirtual 165, 3) := by decide +kernel
theorem dX11_deliver_10 : decode cX11_deliver 10 = .ok (.ifCond .ne 9, 3) := by decide +kernel
theorem dX11_deliver_13 : decode cX11_deliver 13 = .ok (.aload_n 0, 1) := by decide +kernel
theorem dX11_deliver_14 : decode cX11_deliver 14 = .ok (.iconst 1, 1) := by decide +kernel
theorem dX11_deliver_15 : decode cX11_deliver 15 = .ok (.invokevirtual 147, 3) := by decide +kernel
theorem dX11_deliver_18 : decode cX11_deliver 18 = .ok (.ireturn, 1) := by decide +kernel
theorem dX11_deliver_19 : decode cX11_deliver 19 = .ok (.aload_n 0, 1) := by decide +kernel
theorem dX11_deliver_20 : decode cX11_deliver 20 = .ok (.iconst 0, 1) := by decide +kernel
theorem dX11_deliver_21 : decode cX11_deliver 21 = .ok (.iload_n 1, 1) := by decide +kernel
theorem dX11_deliver_22 : decode cX11_deliver 22 = .ok (.invokevirtual 286, 3) := by decide +kernel
theorem dX11_deliver_25 : decode cX11_deliver 25 = .ok (.aload_n 0, 1) := by decide +kernel
theorem dX11_deliver_26 : decode cX11_deliver 26 = .ok (.getfield 28, 3) := by decide +kernel
theorem dX11_deliver_29 : decode cX11_deliver 29 = .ok (.iload_n 1, 1) := by decide +kernel
theorem dX11_deliver_30 : decode cX11_deliver 30 = .ok (.iconst 1, 1) := by decide +kernel
theorem dX11_deliver_31 : decode cX11_deliver 31 = .ok (.bastore, 1) := by decide +kernel
theorem dX11_deliver_32 : decode cX11_deliver 32 = .ok (.aload_n 0, 1) := by decide +kernel
theorem dX11_deliver_33 : decode cX11_deliver 33 = .ok (.getfield 32, 3) := by decide +kernel
theorem dX11_deliver_36 : decode cX11_deliver 36 = .ok (.iload_n 1, 1) := by decide +kernel
theorem dX11_deliver_37 : decode cX11_deliver 37 = .ok (.aload_n 0, 1) := by decide +kernel
theorem dX11_deliver_38 : decode cX11_deliver 38 = .ok (.getfield 265, 3) := by decide +kernel
theorem dX11_deliver_41 : decode cX11_deliver 41 = .ok (.bipush 7, 2) := by decide +kernel
theorem dX11_deliver_43 : decode cX11_deliver 43 = .ok (.if_icmp .le 7, 3) := by decide +kernel
theorem dX11_deliver_46 : decode cX11_deliver 46 = .ok (.iconst 1, 1) := by decide +kernel
theorem dX11_deliver_47 : decode cX11_deliver 47 = .ok (.goto 4, 3) := by decide +kernel
theorem dX11_deliver_50 : decode cX11_deliver 50 = .ok (.iconst 0, 1) := by decide +kernel
theorem dX11_deliver_51 : decode cX11_deliver 51 = .ok (.bastore, 1) := by decide +kernel
theorem dX11_deliver_52 : decode cX11_deliver 52 = .ok (.aload_n 0, 1) := by decide +kernel
theorem dX11_deliver_53 : decode cX11_deliver 53 = .ok (.getfield 35, 3) := by decide +kernel
theorem dX11_deliver_56 : decode cX11_deliver 56 = .ok (.iload_n 1, 1) := by decide +kernel
theorem dX11_deliver_57 : decode cX11_deliver 57 = .ok (.aload_n 0, 1) := by decide +kernel
theorem dX11_deliver_58 : decode cX11_deliver 58 = .ok (.getfield 265, 3) := by decide +kernel
theorem dX11_deliver_61 : decode cX11_deliver 61 = .ok (.bipush 7, 2) := by decide +kernel
theorem dX11_deliver_63 : decode cX11_deliver 63 = .ok (.if_icmp .le 12, 3) := by decide +kernel
theorem dX11_deliver_66 : decode cX11_deliver 66 = .ok (.aload_n 0, 1) := by decide +kernel
theorem dX11_deliver_67 : decode cX11_deliver 67 = .ok (.getfield 35, 3) := by decide +kernel
theorem dX11_deliver_70 : decode cX11_deliver 70 = .ok (.iload_n 1, 1) := by decide +kernel
theorem dX11_deliver_71 : decode cX11_deliver 71 = .ok (.iaload, 1) := by decide +kernel
theorem dX11_deliver_72 : decode cX11_deliver 72 = .ok (.goto 7, 3) := by decide +kernel
theorem dX11_deliver_75 : decode cX11_deliver 75 = .ok (.aload_n 0, 1) := by decide +kernel
theorem dX11_deliver_76 : decode cX11_deliver 76 = .ok (.getfield 265, 3) := by decide +kernel
theorem dX11_deliver_79 : decode cX11_deliver 79 = .ok (.iastore, 1) := by decide +kernel
theorem dX11_deliver_80 : decode cX11_deliver 80 = .ok (.aload_n 0, 1) := by decide +kernel
theorem dX11_deliver_81 : decode cX11_deliver 81 = .ok (.getfield 38, 3) := by decide +kernel
theorem dX11_deliver_84 : decode cX11_deliver 84 = .ok (.iload_n 1, 1) := by decide +kernel
theorem dX11_deliver_85 : decode cX11_deliver 85 = .ok (.aload_n 0, 1) := by decide +kernel
theorem dX11_deliver_86 : decode cX11_deliver 86 = .ok (.getfield 252, 3) := by decide +kernel
theorem dX11_deliver_89 : decode cX11_deliver 89 = .ok (.iastore, 1) := by decide +kernel
theorem dX11_deliver_90 : decode cX11_deliver 90 = .ok (.aload_n 0, 1) := by decide +kernel
theorem dX11_deliver_91 : decode cX11_deliver 91 = .ok (.getfield 41, 3) := by decide +kernel
theorem dX11_deliver_94 : decode cX11_deliver 94 = .ok (.iload_n 1, 1) := by decide +kernel
theorem dX11_deliver_95 : decode cX11_deliver 95 = .ok (.iconst (-1), 1) := by decide +kernel
theorem dX11_deliver_96 : decode cX11_deliver 96 = .ok (.iastore, 1) := by decide +kernel
theorem dX11_deliver_97 : decode cX11_deliver 97 = .ok (.iconst 0, 1) := by decide +kernel
theorem dX11_deliver_98 : decode cX11_deliver 98 = .ok (.istore_n 2, 1) := by decide +kernel
theorem dX11_deliver_99 : decode cX11_deliver 99 = .ok (.iload_n 2, 1) := by decide +kernel
theorem dX11_deliver_100 : decode cX11_deliver 100 = .ok (.bipush 8, 2) := by decide +kernel
theorem dX11_deliver_102 : decode cX11_deliver 102 = .ok (.if_icmp .ge 24, 3) := by decide +kernel
theorem dX11_deliver_105 : decode cX11_deliver 105 = .ok (.aload_n 0, 1) := by decide +kernel
theorem dX11_deliver_106 : decode cX11_deliver 106 = .ok (.getfield 47, 3) := by decide +kernel
theorem dX11_deliver_109 : decode cX11_deliver 109 = .ok (.iload_n 2, 1) := by decide +kernel
theorem dX11_deliver_110 : decode cX11_deliver 110 = .ok (.dup2, 1) := by decide +kernel
theorem dX11_deliver_111 : decode cX11_deliver 111 = .ok (.iaload, 1) := by decide +kernel
theorem dX11_deliver_112 : decode cX11_deliver 112 = .ok (.aload_n 0, 1) := by decide +kernel
theorem dX11_deliver_113 : decode cX11_deliver 113 = .ok (.getfield 96, 3) := by decide +kernel
theorem dX11_deliver_116 : decode cX11_deliver 116 = .ok (.iload_n 2, 1) := by decide +kernel
theorem dX11_deliver_117 : decode cX11_deliver 117 = .ok (.iaload, 1) := by decide +kernel
theorem dX11_deliver_118 : decode cX11_deliver 118 = .ok (.iadd, 1) := by decide +kernel
theorem dX11_deliver_119 : decode cX11_deliver 119 = .ok (.iastore, 1) := by decide +kernel
theorem dX11_deliver_120 : decode cX11_deliver 120 = .ok (.iinc 2 1, 3) := by decide +kernel
theorem dX11_deliver_123 : decode cX11_deliver 123 = .ok (.goto (-24), 3) := by decide +kernel
theorem dX11_deliver_126 : decode cX11_deliver 126 = .ok (.iconst 0, 1) := by decide +kernel
theorem dX11_deliver_127 : decode cX11_deliver 127 = .ok (.istore_n 2, 1) := by decide +kernel
theorem dX11_deliver_128 : decode cX11_deliver 128 = .ok (.iload_n 2, 1) := by decide +kernel
theorem dX11_deliver_129 : decode cX11_deliver 129 = .ok (.bipush 10, 2) := by decide +kernel
theorem dX11_deliver_131 : decode cX11_deliver 131 = .ok (.if_icmp .ge 26, 3) := by decide +kernel
theorem dX11_deliver_134 : decode cX11_deliver 134 = .ok (.aload_n 0, 1) := by decide +kernel
theorem dX11_deliver_135 : decode cX11_deliver 135 = .ok (.getfield 56, 3) := by decide +kernel
theorem dX11_deliver_138 : decode cX11_deliver 138 = .ok (.iload_n 2, 1) := by decide +kernel
theorem dX11_deliver_139 : decode cX11_deliver 139 = .ok (.dup2, 1) := by decide +kernel
theorem dX11_deliver_140 : decode cX11_deliver 140 = .ok (.iaload, 1) := by decide +kernel
theorem dX11_deliver_141 : decode cX11_deliver 141 = .ok (.aload_n 0, 1) := by decide +kernel
theorem dX11_deliver_142 : decode cX11_deliver 142 = .ok (.getfield 236, 3) := by decide +kernel
theorem dX11_deliver_145 : decode cX11_deliver 145 = .ok (.iload_n 2, 1) := by decide +kernel
theorem dX11_deliver_146 : decode cX11_deliver 146 = .ok (.ishr, 1) := by decide +kernel
theorem dX11_deliver_147 : decode cX11_deliver 147 = .ok (.iconst 1, 1) := by decide +kernel
theorem dX11_deliver_148 : decode cX11_deliver 148 = .ok (.iand, 1) := by decide +kernel
theorem dX11_deliver_149 : decode cX11_deliver 149 = .ok (.iadd, 1) := by decide +kernel
theorem dX11_deliver_150 : decode cX11_deliver 150 = .ok (.iastore, 1) := by decide +kernel
theorem dX11_deliver_151 : decode cX11_deliver 151 = .ok (.iinc 2 1, 3) := by decide +kernel
theorem dX11_deliver_154 : decode cX11_deliver 154 = .ok (.goto (-26), 3) := by decide +kernel
theorem dX11_deliver_157 : decode cX11_deliver 157 = .ok (.aload_n 0, 1) := by decide +kernel
theorem dX11_deliver_158 : decode cX11_deliver 158 = .ok (.getfield 242, 3) := by decide +kernel
theorem dX11_deliver_161 : decode cX11_deliver 161 = .ok (.ifCond .eq 33, 3) := by decide +kernel
theorem dX11_deliver_164 : decode cX11_deliver 164 = .ok (.aload_n 0, 1) := by decide +kernel
theorem dX11_deliver_165 : decode cX11_deliver 165 = .ok (.getfield 50, 3) := by decide +kernel
theorem dX11_deliver_168 : decode cX11_deliver 168 = .ok (.aload_n 0, 1) := by decide +kernel
theorem dX11_deliver_169 : decode cX11_deliver 169 = .ok (.getfield 7, 3) := by decide +kernel
theorem dX11_deliver_172 : decode cX11_deliver 172 = .ok (.iload_n 1, 1) := by decide +kernel
theorem dX11_deliver_173 : decode cX11_deliver 173 = .ok (.iaload, 1) := by decide +kernel
theorem dX11_deliver_174 : decode cX11_deliver 174 = .ok (.aload_n 0, 1) := by decide +kernel
theorem dX11_deliver_175 : decode cX11_deliver 175 = .ok (.getfield 154, 3) := by decide +kernel
theorem dX11_deliver_178 : decode cX11_deliver 178 = .ok (.iastore, 1) := by decide +kernel
theorem dX11_deliver_179 : decode cX11_deliver 179 = .ok (.aload_n 0, 1) := by decide +kernel
theorem dX11_deliver_180 : decode cX11_deliver 180 = .ok (.getfield 53, 3) := by decide +kernel
theorem dX11_deliver_183 : decode cX11_deliver 183 = .ok (.aload_n 0, 1) := by decide +kernel
theorem dX11_deliver_184 : decode cX11_deliver 184 = .ok (.getfield 7, 3) := by decide +kernel
theorem dX11_deliver_187 : decode cX11_deliver 187 = .ok (.iload_n 1, 1) := by decide +kernel
theorem dX11_deliver_188 : decode cX11_deliver 188 = .ok (.iaload, 1) := by decide +kernel
theorem dX11_deliver_189 : decode cX11_deliver 189 = .ok (.dup2, 1) := by decide +kernel
theorem dX11_deliver_190 : decode cX11_deliver 190 = .ok (.iaload, 1) := by decide +kernel
theorem dX11_deliver_191 : decode cX11_deliver 191 = .ok (.iconst 1, 1) := by decide +kernel
theorem dX11_deliver_192 : decode cX11_deliver 192 = .ok (.iadd, 1) := by decide +kernel
theorem dX11_deliver_193 : decode cX11_deliver 193 = .ok (.iastore, 1) := by decide +kernel
theorem dX11_deliver_194 : decode cX11_deliver 194 = .ok (.aload_n 0, 1) := by decide +kernel
theorem dX11_deliver_195 : decode cX11_deliver 195 = .ok (.invokevirtual 289, 3) := by decide +kernel
theorem dX11_deliver_198 : decode cX11_deliver 198 = .ok (.ireturn, 1) := by decide +kernel
theorem dX11_isScript_0 : decode cX11_isScript 0 = .ok (.iload_n 0, 1) := by decide +kernel
theorem dX11_isScript_1 : decode cX11_isScript 1 = .ok (.iconst 0, 1) := by decide +kernel
theorem dX11_isScript_2 : decode cX11_isScript 2 = .ok (.iconst 3, 1) := by decide +kernel
theorem dX11_isScript_3 : decode cX11_isScript 3 = .ok (.invokestatic 142, 3) := by decide +kernel
theorem dX11_isScript_6 : decode cX11_isScript 6 = .ok (.ireturn, 1) := by decide +kernel
theorem dX11_attempt_0 : decode cX11_attempt 0 = .ok (.aload_n 0, 1) := by decide +kernel
theorem dX11_attempt_1 : decode cX11_attempt 1 = .ok (.iconst 0, 1) := by decide +kernel
theorem dX11_attempt_2 : decode cX11_attempt 2 = .ok (.putfield 138, 3) := by decide +kernel
theorem dX11_attempt_5 : decode cX11_attempt 5 = .ok (.iload_n 1, 1) := by decide +kernel
theorem dX11_attempt_6 : decode cX11_attempt 6 = .ok (.invokestatic 293, 3) := by decide +kernel
theorem dX11_attempt_9 : decode cX11_attempt 9 = .ok (.ifCond .eq 11, 3) := by decide +kernel
theorem dX11_attempt_12 : decode cX11_attempt 12 = .ok (.aload_n 0, 1) := by decide +kernel
theorem dX11_attempt_13 : decode cX11_attempt 13 = .ok (.iload_n 2, 1) := by decide +kernel
theorem dX11_attempt_14 : decode cX11_attempt 14 = .ok (.invokevirtual 165, 3) := by decide +kernel
theorem dX11_attempt_17 : decode cX11_attempt 17 = .ok (.ifCond .ne 9, 3) := by decide +kernel
theorem dX11_attempt_20 : decode cX11_attempt 20 = .ok (.aload_n 0, 1) := by decide +kernel
theorem dX11_attempt_21 : decode cX11_attempt 21 = .ok (.iconst 1, 1) := by decide +kernel
theorem dX11_attempt_22 : decode cX11_attempt 22 = .ok (.invokevirtual 147, 3) := by decide +kernel
theorem dX11_attempt_25 : decode cX11_attempt 25 = .ok (.ireturn, 1) := by decide +kernel
theorem dX11_attempt_26 : decode cX11_attempt 26 = .ok (.aload_n 0, 1) := by decide +kernel
theorem dX11_attempt_27 : decode cX11_attempt 27 = .ok (.iload_n 1, 1) := by decide +kernel
theorem dX11_attempt_28 : decode cX11_attempt 28 = .ok (.iload_n 2, 1) := by decide +kernel
theorem dX11_attempt_29 : decode cX11_attempt 29 = .ok (.invokevirtual 286, 3) := by decide +kernel
theorem dX11_attempt_32 : decode cX11_attempt 32 = .ok (.aload_n 0, 1) := by decide +kernel
theorem dX11_attempt_33 : decode cX11_attempt 33 = .ok (.invokevirtual 289, 3) := by decide +kernel
theorem dX11_attempt_36 : decode cX11_attempt 36 = .ok (.ireturn, 1) := by decide +kernel
theorem dX11_done_0 : decode cX11_done 0 = .ok (.aload_n 0, 1) := by decide +kernel
theorem dX11_done_1 : decode cX11_done 1 = .ok (.iconst 0, 1) := by decide +kernel
theorem dX11_done_2 : decode cX11_done 2 = .ok (.putfield 138, 3) := by decide +kernel
theorem dX11_done_5 : decode cX11_done 5 = .ok (.aload_n 0, 1) := by decide +kernel
theorem dX11_done_6 : decode cX11_done 6 = .ok (.getfield 268, 3) := by decide +kernel
theorem dX11_done_9 : decode cX11_done 9 = .ok (.ireturn, 1) := by decide +kernel
theorem dX11_doneAt_0 : decode cX11_doneAt 0 = .ok (.aload_n 0, 1) := by decide +kernel
theorem dX11_doneAt_1 : decode cX11_doneAt 1 = .ok (.iconst 0, 1) := by decide +kernel
theorem dX11_doneAt_2 : decode cX11_doneAt 2 = .ok (.putfield 138, 3) := by decide +kernel
theorem dX11_doneAt_5 : decode cX11_doneAt 5 = .ok (.iload_n 1, 1) := by decide +kernel
theorem dX11_doneAt_6 : decode cX11_doneAt 6 = .ok (.iconst 0, 1) := by decide +kernel
theorem dX11_doneAt_7 : decode cX11_doneAt 7 = .ok (.aload_n 0, 1) := by decide +kernel
theorem dX11_doneAt_8 : decode cX11_doneAt 8 = .ok (.getfield 268, 3) := by decide +kernel
theorem dX11_doneAt_11 : decode cX11_doneAt 11 = .ok (.iconst 1, 1) := by decide +kernel
theorem dX11_doneAt_12 : decode cX11_doneAt 12 = .ok (.isub, 1) := by decide +kernel
theorem dX11_doneAt_13 : decode cX11_doneAt 13 = .ok (.invokestatic 142, 3) := by decide +kernel
theorem dX11_doneAt_16 : decode cX11_doneAt 16 = .ok (.ifCond .eq 12, 3) := by decide +kernel
theorem dX11_doneAt_19 : decode cX11_doneAt 19 = .ok (.aload_n 0, 1) := by decide +kernel
theorem dX11_doneAt_20 : decode cX11_doneAt 20 = .ok (.getfield 102, 3) := by decide +kernel
theorem dX11_doneAt_23 : decode cX11_doneAt 23 = .ok (.iload_n 1, 1) := by decide +kernel
theorem dX11_doneAt_24 : decode cX11_doneAt 24 = .ok (.iaload, 1) := by decide +kernel
theorem dX11_doneAt_25 : decode cX11_doneAt 25 = .ok (.goto 8, 3) := by decide +kernel
theorem dX11_doneAt_28 : decode cX11_doneAt 28 = .ok (.aload_n 0, 1) := by decide +kernel
theorem dX11_doneAt_29 : decode cX11_doneAt 29 = .ok (.iconst 1, 1) := by decide +kernel
theorem dX11_doneAt_30 : decode cX11_doneAt 30 = .ok (.invokevirtual 147, 3) := by decide +kernel
theorem dX11_doneAt_33 : decode cX11_doneAt 33 = .ok (.ireturn, 1) := by decide +kernel
theorem dX11_clashes_0 : decode cX11_clashes 0 = .ok (.aload_n 0, 1) := by decide +kernel
theorem dX11_clashes_1 : decode cX11_clashes 1 = .ok (.iconst 0, 1) := by decide +kernel
theorem dX11_clashes_2 : decode cX11_clashes 2 = .ok (.putfield 138, 3) := by decide +kernel
theorem dX11_clashes_5 : decode cX11_clashes 5 = .ok (.aload_n 0, 1) := by decide +kernel
theorem dX11_clashes_6 : decode cX11_clashes 6 = .ok (.getfield 271, 3) := by decide +kernel
theorem dX11_clashes_9 : decode cX11_clashes 9 = .ok (.ireturn, 1) := by decide +kernel
theorem dX11_faults_0 : decode cX11_faults 0 = .ok (.aload_n 0, 1) := by decide +kernel
theorem dX11_faults_1 : decode cX11_faults 1 = .ok (.iconst 0, 1) := by decide +kernel
theorem dX11_faults_2 : decode cX11_faults 2 = .ok (.putfield 138, 3) := by decide +kernel
theorem dX11_faults_5 : decode cX11_faults 5 = .ok (.iload_n 1, 1) := by decide +kernel
theorem dX11_faults_6 : decode cX11_faults 6 = .ok (.bipush 105, 2) := by decide +kernel
theorem dX11_faults_8 : decode cX11_faults 8 = .ok (.if_icmp .ne 10, 3) := by decide +kernel
theorem dX11_faults_11 : decode cX11_faults 11 = .ok (.aload_n 0, 1) := by decide +kernel
theorem dX11_faults_12 : decode cX11_faults 12 = .ok (.getfield 274, 3) := by decide +kernel
theorem dX11_faults_15 : decode cX11_faults 15 = .ok (.goto 34, 3) := by decide +kernel
theorem dX11_faults_18 : decode cX11_faults 18 = .ok (.iload_n 1, 1) := by decide +kernel
theorem dX11_faults_19 : decode cX11_faults 19 = .ok (.bipush 119, 2) := by decide +kernel
theorem dX11_faults_21 : decode cX11_faults 21 = .ok (.if_icmp .ne 10, 3) := by decide +kernel
theorem dX11_faults_24 : decode cX11_faults 24 = .ok (.aload_n 0, 1) := by decide +kernel
theorem dX11_faults_25 : decode cX11_faults 25 = .ok (.getfield 277, 3) := by decide +kernel
theorem dX11_faults_28 : decode cX11_faults 28 = .ok (.goto 21, 3) := by decide +kernel
theorem dX11_faults_31 : decode cX11_faults 31 = .ok (.iload_n 1, 1) := by decide +kernel
theorem dX11_faults_32 : decode cX11_faults 32 = .ok (.bipush 113, 2) := by decide +kernel
theorem dX11_faults_34 : decode cX11_faults 34 = .ok (.if_icmp .ne 10, 3) := by decide +kernel
theorem dX11_faults_37 : decode cX11_faults 37 = .ok (.aload_n 0, 1) := by decide +kernel
theorem dX11_faults_38 : decode cX11_faults 38 = .ok (.getfield 280, 3) := by decide +kernel
theorem dX11_faults_41 : decode cX11_faults 41 = .ok (.goto 8, 3) := by decide +kernel
theorem dX11_faults_44 : decode cX11_faults 44 = .ok (.aload_n 0, 1) := by decide +kernel
theorem dX11_faults_45 : decode cX11_faults 45 = .ok (.iconst 1, 1) := by decide +kernel
theorem dX11_faults_46 : decode cX11_faults 46 = .ok (.invokevirtual 147, 3) := by decide +kernel
theorem dX11_faults_49 : decode cX11_faults 49 = .ok (.ireturn, 1) := by decide +kernel
theorem dX11_flags_0 : decode cX11_flags 0 = .ok (.aload_n 0, 1) := by decide +kernel
theorem dX11_flags_1 : decode cX11_flags 1 = .ok (.iconst 0, 1) := by decide +kernel
theorem dX11_flags_2 : decode cX11_flags 2 = .ok (.putfield 138, 3) := by decide +kernel
theorem dX11_flags_5 : decode cX11_flags 5 = .ok (.aload_n 0, 1) := by decide +kernel
theorem dX11_flags_6 : decode cX11_flags 6 = .ok (.getfield 283, 3) := by decide +kernel
theorem dX11_flags_9 : decode cX11_flags 9 = .ok (.ireturn, 1) := by decide +kernel
theorem dX11_replies_0 : decode cX11_replies 0 = .ok (.aload_n 0, 1) := by decide +kernel
theorem dX11_replies_1 : decode cX11_replies 1 = .ok (.iconst 0, 1) := by decide +kernel
theorem dX11_replies_2 : decode cX11_replies 2 = .ok (.putfield 138, 3) := by decide +kernel
theorem dX11_replies_5 : decode cX11_replies 5 = .ok (.iload_n 1, 1) := by decide +kernel
theorem dX11_replies_6 : decode cX11_replies 6 = .ok (.iconst 0, 1) := by decide +kernel
theorem dX11_replies_7 : decode cX11_replies 7 = .ok (.bipush 9, 2) := by decide +kernel
theorem dX11_replies_9 : decode cX11_replies 9 = .ok (.invokestatic 142, 3) := by decide +kernel
theorem dX11_replies_12 : decode cX11_replies 12 = .ok (.ifCond .eq 12, 3) := by decide +kernel
theorem dX11_replies_15 : decode cX11_replies 15 = .ok (.aload_n 0, 1) := by decide +kernel
theorem dX11_replies_16 : decode cX11_replies 16 = .ok (.getfield 53, 3) := by decide +kernel
theorem dX11_replies_19 : decode cX11_replies 19 = .ok (.iload_n 1, 1) := by decide +kernel
theorem dX11_replies_20 : decode cX11_replies 20 = .ok (.iaload, 1) := by decide +kernel
theorem dX11_replies_21 : decode cX11_replies 21 = .ok (.goto 8, 3) := by decide +kernel
theorem dX11_replies_24 : decode cX11_replies 24 = .ok (.aload_n 0, 1) := by decide +kernel
theorem dX11_replies_25 : decode cX11_replies 25 = .ok (.iconst 1, 1) := by decide +kernel
theorem dX11_replies_26 : decode cX11_replies 26 = .ok (.invokevirtual 147, 3) := by decide +kernel
theorem dX11_replies_29 : decode cX11_replies 29 = .ok (.ireturn, 1) := by decide +kernel
theorem dX11_forwarded_0 : decode cX11_forwarded 0 = .ok (.aload_n 0, 1) := by decide +kernel
theorem dX11_forwarded_1 : decode cX11_forwarded 1 = .ok (.iconst 0, 1) := by decide +kernel
theorem dX11_forwarded_2 : decode cX11_forwarded 2 = .ok (.putfield 138, 3) := by decide +kernel
theorem dX11_forwarded_5 : decode cX11_forwarded 5 = .ok (.iload_n 1, 1) := by decide +kernel
theorem dX11_forwarded_6 : decode cX11_forwarded 6 = .ok (.iconst 0, 1) := by decide +kernel
theorem dX11_forwarded_7 : decode cX11_forwarded 7 = .ok (.bipush 9, 2) := by decide +kernel
theorem dX11_forwarded_9 : decode cX11_forwarded 9 = .ok (.invokestatic 142, 3) := by decide +kernel
theorem dX11_forwarded_12 : decode cX11_forwarded 12 = .ok (.ifCond .eq 12, 3) := by decide +kernel
theorem dX11_forwarded_15 : decode cX11_forwarded 15 = .ok (.aload_n 0, 1) := by decide +kernel
theorem dX11_forwarded_16 : decode cX11_forwarded 16 = .ok (.getfield 56, 3) := by decide +kernel
theorem dX11_forwarded_19 : decode cX11_forwarded 19 = .ok (.iload_n 1, 1) := by decide +kernel
theorem dX11_forwarded_20 : decode cX11_forwarded 20 = .ok (.iaload, 1) := by decide +kernel
theorem dX11_forwarded_21 : decode cX11_forwarded 21 = .ok (.goto 8, 3) := by decide +kernel
theorem dX11_forwarded_24 : decode cX11_forwarded 24 = .ok (.aload_n 0, 1) := by decide +kernel
theorem dX11_forwarded_25 : decode cX11_forwarded 25 = .ok (.iconst 1, 1) := by decide +kernel
theorem dX11_forwarded_26 : decode cX11_forwarded 26 = .ok (.invokevirtual 147, 3) := by decide +kernel
theorem dX11_forwarded_29 : decode cX11_forwarded 29 = .ok (.ireturn, 1) := by decide +kernel
theorem dX11_difference_0 : decode cX11_difference 0 = .ok (.aload_n 0, 1) := by decide +kernel
theorem dX11_difference_1 : decode cX11_difference 1 = .ok (.iconst 0, 1) := by decide +kernel
theorem dX11_difference_2 : decode cX11_difference 2 = .ok (.putfield 138, 3) := by decide +kernel
theorem dX11_difference_5 : decode cX11_difference 5 = .ok (.iload_n 1, 1) := by decide +kernel
theorem dX11_difference_6 : decode cX11_difference 6 = .ok (.invokestatic 293, 3) := by decide +kernel
theorem dX11_difference_9 : decode cX11_difference 9 = .ok (.ifCond .eq 10, 3) := by decide +kernel
theorem dX11_difference_12 : decode cX11_difference 12 = .ok (.iload_n 2, 1) := by decide +kernel
theorem dX11_difference_13 : decode cX11_difference 13 = .ok (.invokestatic 293, 3) := by decide +kernel
theorem dX11_difference_16 : decode cX11_difference 16 = .ok (.ifCond .ne 9, 3) := by decide +kernel
theorem dX11_difference_19 : decode cX11_difference 19 = .ok (.aload_n 0, 1) := by decide +kernel
theorem dX11_difference_20 : decode cX11_difference 20 = .ok (.iconst 1, 1) := by decide +kernel
theorem dX11_difference_21 : decode cX11_difference 21 = .ok (.invokevirtual 147, 3) := by decide +kernel
theorem dX11_difference_24 : decode cX11_difference 24 = .ok (.ireturn, 1) := by decide +kernel
theorem dX11_difference_25 : decode cX11_difference 25 = .ok (.iconst 0, 1) := by decide +kernel
theorem dX11_difference_26 : decode cX11_difference 26 = .ok (.istore_n 3, 1) := by decide +kernel
theorem dX11_difference_27 : decode cX11_difference 27 = .ok (.iconst 0, 1) := by decide +kernel
theorem dX11_difference_28 : decode cX11_difference 28 = .ok (.istore 4, 2) := by decide +kernel
theorem dX11_difference_30 : decode cX11_difference 30 = .ok (.iload 4, 2) := by decide +kernel
theorem dX11_difference_32 : decode cX11_difference 32 = .ok (.aload_n 0, 1) := by decide +kernel
theorem dX11_difference_33 : decode cX11_difference 33 = .ok (.getfield 151, 3) := by decide +kernel
theorem dX11_difference_36 : decode cX11_difference 36 = .ok (.if_icmp .ge 62, 3) := by decide +kernel
theorem dX11_difference_39 : decode cX11_difference 39 = .ok (.aload_n 0, 1) := by decide +kernel
theorem dX11_difference_40 : decode cX11_difference 40 = .ok (.iload_n 1, 1) := by decide +kernel
theorem dX11_difference_41 : decode cX11_difference 41 = .ok (.iload 4, 2) := by decide +kernel
theorem dX11_difference_43 : decode cX11_difference 43 = .ok (.invokevirtual 286, 3) := by decide +kernel
theorem dX11_difference_46 : decode cX11_difference 46 = .ok (.bipush 10, 2) := by decide +kernel
theorem dX11_difference_48 : decode cX11_difference 48 = .ok (.aload_n 0, 1) := by decide +kernel
theorem dX11_difference_49 : decode cX11_difference 49 = .ok (.getfield 252, 3) := by decide +kernel
theorem dX11_difference_52 : decode cX11_difference 52 = .ok (.imul, 1) := by decide +kernel
theorem dX11_difference_53 : decode cX11_difference 53 = .ok (.aload_n 0, 1) := by decide +kernel
theorem dX11_difference_54 : decode cX11_difference 54 = .ok (.getfield 265, 3) := by decide +kernel
theorem dX11_difference_57 : decode cX11_difference 57 = .ok (.iadd, 1) := by decide +kernel
theorem dX11_difference_58 : decode cX11_difference 58 = .ok (.istore 5, 2) := by decide +kernel
theorem dX11_difference_60 : decode cX11_difference 60 = .ok (.aload_n 0, 1) := by decide +kernel
theorem dX11_difference_61 : decode cX11_difference 61 = .ok (.iload_n 2, 1) := by decide +kernel
theorem dX11_difference_62 : decode cX11_difference 62 = .ok (.iload 4, 2) := by decide +kernel
theorem dX11_difference_64 : decode cX11_difference 64 = .ok (.invokevirtual 286, 3) := by decide +kernel
theorem dX11_difference_67 : decode cX11_difference 67 = .ok (.iload_n 3, 1) := by decide +kernel
theorem dX11_difference_68 : decode cX11_difference 68 = .ok (.iload 5, 2) := by decide +kernel
theorem dX11_difference_70 : decode cX11_difference 70 = .ok (.bipush 10, 2) := by decide +kernel
theorem dX11_difference_72 : decode cX11_difference 72 = .ok (.aload_n 0, 1) := by decide +kernel
theorem dX11_difference_73 : decode cX11_difference 73 = .ok (.getfield 252, 3) := by decide +kernel
theorem dX11_difference_76 : decode cX11_difference 76 = .ok (.imul, 1) := by decide +kernel
theorem dX11_difference_77 : decode cX11_difference 77 = .ok (.aload_n 0, 1) := by decide +kernel
theorem dX11_difference_78 : decode cX11_difference 78 = .ok (.getfield 265, 3) := by decide +kernel
theorem dX11_difference_81 : decode cX11_difference 81 = .ok (.iadd, 1) := by decide +kernel
theorem dX11_difference_82 : decode cX11_difference 82 = .ok (.if_icmp .eq 7, 3) := by decide +kernel
theorem dX11_difference_85 : decode cX11_difference 85 = .ok (.iconst 1, 1) := by decide +kernel
theorem dX11_difference_86 : decode cX11_difference 86 = .ok (.goto 4, 3) := by decide +kernel
theorem dX11_difference_89 : decode cX11_difference 89 = .ok (.iconst 0, 1) := by decide +kernel
theorem dX11_difference_90 : decode cX11_difference 90 = .ok (.iadd, 1) := by decide +kernel
theorem dX11_difference_91 : decode cX11_difference 91 = .ok (.istore_n 3, 1) := by decide +kernel
theorem dX11_difference_92 : decode cX11_difference 92 = .ok (.iinc 4 1, 3) := by decide +kernel
theorem dX11_difference_95 : decode cX11_difference 95 = .ok (.goto (-65), 3) := by decide +kernel
theorem dX11_difference_98 : decode cX11_difference 98 = .ok (.iload_n 3, 1) := by decide +kernel
theorem dX11_difference_99 : decode cX11_difference 99 = .ok (.ireturn, 1) := by decide +kernel
theorem dX11_uses_0 : decode cX11_uses 0 = .ok (.aload_n 0, 1) := by decide +kernel
theorem dX11_uses_1 : decode cX11_uses 1 = .ok (.getfield 108, 3) := by decide +kernel
theorem dX11_uses_4 : decode cX11_uses 4 = .ok (.iload_n 1, 1) := by decide +kernel
theorem dX11_uses_5 : decode cX11_uses 5 = .ok (.iconst 1, 1) := by decide +kernel
theorem dX11_uses_6 : decode cX11_uses 6 = .ok (.bastore, 1) := by decide +kernel
theorem dX11_uses_7 : decode cX11_uses 7 = .ok (.return_, 1) := by decide +kernel
theorem dX11_gathers_0 : decode cX11_gathers 0 = .ok (.iconst 0, 1) := by decide +kernel
theorem dX11_gathers_1 : decode cX11_gathers 1 = .ok (.istore_n 1, 1) := by decide +kernel
theorem dX11_gathers_2 : decode cX11_gathers 2 = .ok (.iload_n 1, 1) := by decide +kernel
theorem dX11_gathers_3 : decode cX11_gathers 3 = .ok (.bipush 45, 2) := by decide +kernel
theorem dX11_gathers_5 : decode cX11_gathers 5 = .ok (.if_icmp .ge 23, 3) := by decide +kernel
theorem dX11_gathers_8 : decode cX11_gathers 8 = .ok (.aload_n 0, 1) := by decide +kernel
theorem dX11_gathers_9 : decode cX11_gathers 9 = .ok (.getfield 108, 3) := by decide +kernel
theorem dX11_gathers_12 : decode cX11_gathers 12 = .ok (.iload_n 1, 1) := by decide +kernel
theorem dX11_gathers_13 : decode cX11_gathers 13 = .ok (.iconst 0, 1) := by decide +kernel
theorem dX11_gathers_14 : decode cX11_gathers 14 = .ok (.bastore, 1) := by decide +kernel
theorem dX11_gathers_15 : decode cX11_gathers 15 = .ok (.aload_n 0, 1) := by decide +kernel
theorem dX11_gathers_16 : decode cX11_gathers 16 = .ok (.getfield 105, 3) := by decide +kernel
theorem dX11_gathers_19 : decode cX11_gathers 19 = .ok (.iload_n 1, 1) := by decide +kernel
theorem dX11_gathers_20 : decode cX11_gathers 20 = .ok (.iconst (-1), 1) := by decide +kernel
theorem dX11_gathers_21 : decode cX11_gathers 21 = .ok (.iastore, 1) := by decide +kernel
theorem dX11_gathers_22 : decode cX11_gathers 22 = .ok (.iinc 1 1, 3) := by decide +kernel
theorem dX11_gathers_25 : decode cX11_gathers 25 = .ok (.goto (-23), 3) := by decide +kernel
theorem dX11_gathers_28 : decode cX11_gathers 28 = .ok (.aload_n 0, 1) := by decide +kernel
theorem dX11_gathers_29 : decode cX11_gathers 29 = .ok (.iconst 1, 1) := by decide +kernel
theorem dX11_gathers_30 : decode cX11_gathers 30 = .ok (.putfield 296, 3) := by decide +kernel
theorem dX11_gathers_33 : decode cX11_gathers 33 = .ok (.aload_n 0, 1) := by decide +kernel
theorem dX11_gathers_34 : decode cX11_gathers 34 = .ok (.getfield 126, 3) := by decide +kernel
theorem dX11_gathers_37 : decode cX11_gathers 37 = .ok (.iconst 0, 1) := by decide +kernel
theorem dX11_gathers_38 : decode cX11_gathers 38 = .ok (.iconst 1, 1) := by decide +kernel
theorem dX11_gathers_39 : decode cX11_gathers 39 = .ok (.iastore, 1) := by decide +kernel
theorem dX11_gathers_40 : decode cX11_gathers 40 = .ok (.aload_n 0, 1) := by decide +kernel
theorem dX11_gathers_41 : decode cX11_gathers 41 = .ok (.getfield 173, 3) := by decide +kernel
theorem dX11_gathers_44 : decode cX11_gathers 44 = .ok (.iconst 1, 1) := by decide +kernel
theorem dX11_gathers_45 : decode cX11_gathers 45 = .ok (.isub, 1) := by decide +kernel
theorem dX11_gathers_46 : decode cX11_gathers 46 = .ok (.istore_n 1, 1) := by decide +kernel
theorem dX11_gathers_47 : decode cX11_gathers 47 = .ok (.iload_n 1, 1) := by decide +kernel
theorem dX11_gathers_48 : decode cX11_gathers 48 = .ok (.ifCond .lt 40, 3) := by decide +kernel
theorem dX11_gathers_51 : decode cX11_gathers 51 = .ok (.aload_n 0, 1) := by decide +kernel
theorem dX11_gathers_52 : decode cX11_gathers 52 = .ok (.getfield 117, 3) := by decide +kernel
theorem dX11_gathers_55 : decode cX11_gathers 55 = .ok (.iload_n 1, 1) := by decide +kernel
theorem dX11_gathers_56 : decode cX11_gathers 56 = .ok (.baload, 1) := by decide +kernel
theorem dX11_gathers_57 : decode cX11_gathers 57 = .ok (.ifCond .eq 25, 3) := by decide +kernel
theorem dX11_gathers_60 : decode cX11_gathers 60 = .ok (.aload_n 0, 1) := by decide +kernel
theorem dX11_gathers_61 : decode cX11_gathers 61 = .ok (.aload_n 0, 1) := by decide +kernel
theorem dX11_gathers_62 : decode cX11_gathers 62 = .ok (.getfield 59, 3) := by decide +kernel
theorem dX11_gathers_65 : decode cX11_gathers 65 = .ok (.iload_n 1, 1) := by decide +kernel
theorem dX11_gathers_66 : decode cX11_gathers 66 = .ok (.caload, 1) := by decide +kernel
theorem dX11_gathers_67 : decode cX11_gathers 67 = .ok (.aload_n 0, 1) := by decide +kernel
theorem dX11_gathers_68 : decode cX11_gathers 68 = .ok (.getfield 63, 3) := by decide +kernel
theorem dX11_gathers_71 : decode cX11_gathers 71 = .ok (.iload_n 1, 1) := by decide +kernel
theorem dX11_gathers_72 : decode cX11_gathers 72 = .ok (.iaload, 1) := by decide +kernel
theorem dX11_gathers_73 : decode cX11_gathers 73 = .ok (.aload_n 0, 1) := by decide +kernel
theorem dX11_gathers_74 : decode cX11_gathers 74 = .ok (.getfield 66, 3) := by decide +kernel
theorem dX11_gathers_77 : decode cX11_gathers 77 = .ok (.iload_n 1, 1) := by decide +kernel
theorem dX11_gathers_78 : decode cX11_gathers 78 = .ok (.iaload, 1) := by decide +kernel
theorem dX11_gathers_79 : decode cX11_gathers 79 = .ok (.invokevirtual 299, 3) := by decide +kernel
theorem dX11_gathers_82 : decode cX11_gathers 82 = .ok (.iinc 1 (-1), 3) := by decide +kernel
theorem dX11_gathers_85 : decode cX11_gathers 85 = .ok (.goto (-38), 3) := by decide +kernel
theorem dX11_gathers_88 : decode cX11_gathers 88 = .ok (.aload_n 0, 1) := by decide +kernel
theorem dX11_gathers_89 : decode cX11_gathers 89 = .ok (.iconst 0, 1) := by decide +kernel
theorem dX11_gathers_90 : decode cX11_gathers 90 = .ok (.putfield 303, 3) := by decide +kernel
theorem dX11_gathers_93 : decode cX11_gathers 93 = .ok (.iconst 0, 1) := by decide +kernel
theorem dX11_gathers_94 : decode cX11_gathers 94 = .ok (.istore_n 1, 1) := by decide +kernel
theorem dX11_gathers_95 : decode cX11_gathers 95 = .ok (.iload_n 1, 1) := by decide +kernel
theorem dX11_gathers_96 : decode cX11_gathers 96 = .ok (.bipush 45, 2) := by decide +kernel
theorem dX11_gathers_98 : decode cX11_gathers 98 = .ok (.if_icmp .ge 38, 3) := by decide +kernel
theorem dX11_gathers_101 : decode cX11_gathers 101 = .ok (.aload_n 0, 1) := by decide +kernel
theorem dX11_gathers_102 : decode cX11_gathers 102 = .ok (.getfield 108, 3) := by decide +kernel
theorem dX11_gathers_105 : decode cX11_gathers 105 = .ok (.iload_n 1, 1) := by decide +kernel
theorem dX11_gathers_106 : decode cX11_gathers 106 = .ok (.baload, 1) := by decide +kernel
theorem dX11_gathers_107 : decode cX11_gathers 107 = .ok (.ifCond .eq 23, 3) := by decide +kernel
theorem dX11_gathers_110 : decode cX11_gathers 110 = .ok (.aload_n 0, 1) := by decide +kernel
theorem dX11_gathers_111 : decode cX11_gathers 111 = .ok (.getfield 111, 3) := by decide +kernel
theorem dX11_gathers_114 : decode cX11_gathers 114 = .ok (.aload_n 0, 1) := by decide +kernel
theorem dX11_gathers_115 : decode cX11_gathers 115 = .ok (.getfield 303, 3) := by decide +kernel
theorem dX11_gathers_118 : decode cX11_gathers 118 = .ok (.iload_n 1, 1) := by decide +kernel
theorem dX11_gathers_119 : decode cX11_gathers 119 = .ok (.iastore, 1) := by decide +kernel
theorem dX11_gathers_120 : decode cX11_gathers 120 = .ok (.aload_n 0, 1) := by decide +kernel
theorem dX11_gathers_121 : decode cX11_gathers 121 = .ok (.dup, 1) := by decide +kernel
theorem dX11_gathers_122 : decode cX11_gathers 122 = .ok (.getfield 303, 3) := by decide +kernel
theorem dX11_gathers_125 : decode cX11_gathers 125 = .ok (.iconst 1, 1) := by decide +kernel
theorem dX11_gathers_126 : decode cX11_gathers 126 = .ok (.iadd, 1) := by decide +kernel
theorem dX11_gathers_127 : decode cX11_gathers 127 = .ok (.putfield 303, 3) := by decide +kernel
theorem dX11_gathers_130 : decode cX11_gathers 130 = .ok (.iinc 1 1, 3) := by decide +kernel
theorem dX11_gathers_133 : decode cX11_gathers 133 = .ok (.goto (-38), 3) := by decide +kernel
theorem dX11_gathers_136 : decode cX11_gathers 136 = .ok (.return_, 1) := by decide +kernel
theorem dX11_needs_0 : decode cX11_needs 0 = .ok (.iload_n 1, 1) := by decide +kernel
theorem dX11_needs_1 : decode cX11_needs 1 = .ok (.bipush 33, 2) := by decide +kernel
theorem dX11_needs_3 : decode cX11_needs 3 = .ok (.if_icmp .eq 10, 3) := by decide +kernel
theorem dX11_needs_6 : decode cX11_needs 6 = .ok (.iload_n 1, 1) := by decide +kernel
theorem dX11_needs_7 : decode cX11_needs 7 = .ok (.invokestatic 169, 3) := by decide +kernel
theorem dX11_needs_10 : decode cX11_needs 10 = .ok (.ifCond .eq 30, 3) := by decide +kernel
theorem dX11_needs_13 : decode cX11_needs 13 = .ok (.aload_n 0, 1) := by decide +kernel
theorem dX11_needs_14 : decode cX11_needs 14 = .ok (.getfield 117, 3) := by decide +kernel
theorem dX11_needs_17 : decode cX11_needs 17 = .ok (.iload_n 2, 1) := by decide +kernel
theorem dX11_needs_18 : decode cX11_needs 18 = .ok (.iconst 1, 1) := by decide +kernel
theorem dX11_needs_19 : decode cX11_needs 19 = .ok (.bastore, 1) := by decide +kernel
theorem dX11_needs_20 : decode cX11_needs 20 = .ok (.aload_n 0, 1) := by decide +kernel
theorem dX11_needs_21 : decode cX11_needs 21 = .ok (.getfield 117, 3) := by decide +kernel
theorem dX11_needs_24 : decode cX11_needs 24 = .ok (.iload_n 1, 1) := by decide +kernel
theorem dX11_needs_25 : decode cX11_needs 25 = .ok (.bipush 33, 2) := by decide +kernel
theorem dX11_needs_27 : decode cX11_needs 27 = .ok (.if_icmp .ne 7, 3) := by decide +kernel
theorem dX11_needs_30 : decode cX11_needs 30 = .ok (.iload_n 2, 1) := by decide +kernel
theorem dX11_needs_31 : decode cX11_needs 31 = .ok (.goto 4, 3) := by decide +kernel
theorem dX11_needs_34 : decode cX11_needs 34 = .ok (.iload_n 3, 1) := by decide +kernel
theorem dX11_needs_35 : decode cX11_needs 35 = .ok (.iconst 1, 1) := by decide +kernel
theorem dX11_needs_36 : decode cX11_needs 36 = .ok (.bastore, 1) := by decide +kernel
theorem dX11_needs_37 : decode cX11_needs 37 = .ok (.goto 162, 3) := by decide +kernel
theorem dX11_needs_40 : decode cX11_needs 40 = .ok (.iload_n 1, 1) := by decide +kernel
theorem dX11_needs_41 : decode cX11_needs 41 = .ok (.bipush 102, 2) := by decide +kernel
theorem dX11_needs_43 : decode cX11_needs 43 = .ok (.if_icmp .eq 9, 3) := by decide +kernel
theorem dX11_needs_46 : decode cX11_needs 46 = .ok (.iload_n 1, 1) := by decide +kernel
theorem dX11_needs_47 : decode cX11_needs 47 = .ok (.bipush 100, 2) := by decide +kernel
theorem dX11_needs_49 : decode cX11_needs 49 = .ok (.if_icmp .ne 21, 3) := by decide +kernel
theorem dX11_needs_52 : decode cX11_needs 52 = .ok (.aload_n 0, 1) := by decide +kernel
theorem dX11_needs_53 : decode cX11_needs 53 = .ok (.iload_n 1, 1) := by decide +kernel
theorem dX11_needs_54 : decode cX11_needs 54 = .ok (.bipush 102, 2) := by decide +kernel
theorem dX11_needs_56 : decode cX11_needs 56 = .ok (.if_icmp .ne 7, 3) := by decide +kernel
theorem dX11_needs_59 : decode cX11_needs 59 = .ok (.iconst 0, 1) := by decide +kernel
theorem dX11_needs_60 : decode cX11_needs 60 = .ok (.goto 4, 3) := by decide +kernel
theorem dX11_needs_63 : decode cX11_needs 63 = .ok (.iconst 1, 1) := by decide +kernel
theorem dX11_needs_64 : decode cX11_needs 64 = .ok (.invokevirtual 306, 3) := by decide +kernel
theorem dX11_needs_67 : decode cX11_needs 67 = .ok (.goto 132, 3) := by decide +kernel
theorem dX11_needs_70 : decode cX11_needs 70 = .ok (.iload_n 1, 1) := by decide +kernel
theorem dX11_needs_71 : decode cX11_needs 71 = .ok (.bipush 122, 2) := by decide +kernel
theorem dX11_needs_73 : decode cX11_needs 73 = .ok (.if_icmp .ne 46, 3) := by decide +kernel
theorem dX11_needs_76 : decode cX11_needs 76 = .ok (.aload_n 0, 1) := by decide +kernel
theorem dX11_needs_77 : decode cX11_needs 77 = .ok (.iconst 2, 1) := by decide +kernel
theorem dX11_needs_78 : decode cX11_needs 78 = .ok (.invokevirtual 306, 3) := by decide +kernel
theorem dX11_needs_81 : decode cX11_needs 81 = .ok (.aload_n 0, 1) := by decide +kernel
theorem dX11_needs_82 : decode cX11_needs 82 = .ok (.getfield 126, 3) := by decide +kernel
theorem dX11_needs_85 : decode cX11_needs 85 = .ok (.aload_n 0, 1) := by decide +kernel
theorem dX11_needs_86 : decode cX11_needs 86 = .ok (.getfield 296, 3) := by decide +kernel
theorem dX11_needs_89 : decode cX11_needs 89 = .ok (.iload_n 2, 1) := by decide +kernel
theorem dX11_needs_90 : decode cX11_needs 90 = .ok (.sipush 999, 3) := by decide +kernel
theorem dX11_needs_93 : decode cX11_needs 93 = .ok (.if_icmp .ge 9, 3) := by decide +kernel
theorem dX11_needs_96 : decode cX11_needs 96 = .ok (.iload_n 2, 1) := by decide +kernel
theorem dX11_needs_97 : decode cX11_needs 97 = .ok (.iconst 1, 1) := by decide +kernel
theorem dX11_needs_98 : decode cX11_needs 98 = .ok (.iadd, 1) := by decide +kernel
theorem dX11_needs_99 : decode cX11_needs 99 = .ok (.goto 6, 3) := by decide +kernel
theorem dX11_needs_102 : decode cX11_needs 102 = .ok (.sipush 999, 3) := by decide +kernel
theorem dX11_needs_105 : decode cX11_needs 105 = .ok (.iastore, 1) := by decide +kernel
theorem dX11_needs_106 : decode cX11_needs 106 = .ok (.aload_n 0, 1) := by decide +kernel
theorem dX11_needs_107 : decode cX11_needs 107 = .ok (.dup, 1) := by decide +kernel
theorem dX11_needs_108 : decode cX11_needs 108 = .ok (.getfield 296, 3) := by decide +kernel
theorem dX11_needs_111 : decode cX11_needs 111 = .ok (.iconst 1, 1) := by decide +kernel
theorem dX11_needs_112 : decode cX11_needs 112 = .ok (.iadd, 1) := by decide +kernel
theorem dX11_needs_113 : decode cX11_needs 113 = .ok (.putfield 296, 3) := by decide +kernel
theorem dX11_needs_116 : decode cX11_needs 116 = .ok (.goto 83, 3) := by decide +kernel
theorem dX11_needs_119 : decode cX11_needs 119 = .ok (.iload_n 1, 1) := by decide +kernel
theorem dX11_needs_120 : decode cX11_needs 120 = .ok (.bipush 116, 2) := by decide +kernel
theorem dX11_needs_122 : decode cX11_needs 122 = .ok (.if_icmp .ne 13, 3) := by decide +kernel
theorem dX11_needs_125 : decode cX11_needs 125 = .ok (.aload_n 0, 1) := by decide +kernel
theorem dX11_needs_126 : decode cX11_needs 126 = .ok (.iconst 3, 1) := by decide +kernel
theorem dX11_needs_127 : decode cX11_needs 127 = .ok (.iload_n 2, 1) := by decide +kernel
theorem dX11_needs_128 : decode cX11_needs 128 = .ok (.iadd, 1) := by decide +kernel
theorem dX11_needs_129 : decode cX11_needs 129 = .ok (.invokevirtual 306, 3) := by decide +kernel
theorem dX11_needs_132 : decode cX11_needs 132 = .ok (.goto 67, 3) := by decide +kernel
theorem dX11_needs_135 : decode cX11_needs 135 = .ok (.iload_n 1, 1) := by decide +kernel
theorem dX11_needs_136 : decode cX11_needs 136 = .ok (.bipush 115, 2) := by decide +kernel
theorem dX11_needs_138 : decode cX11_needs 138 = .ok (.if_icmp .eq 9, 3) := by decide +kernel
theorem dX11_needs_141 : decode cX11_needs 141 = .ok (.iload_n 1, 1) := by decide +kernel
theorem dX11_needs_142 : decode cX11_needs 142 = .ok (.bipush 98, 2) := by decide +kernel
theorem dX11_needs_144 : decode cX11_needs 144 = .ok (.if_icmp .ne 25, 3) := by decide +kernel
theorem dX11_needs_147 : decode cX11_needs 147 = .ok (.aload_n 0, 1) := by decide +kernel
theorem dX11_needs_148 : decode cX11_needs 148 = .ok (.iload_n 1, 1) := by decide +kernel
theorem dX11_needs_149 : decode cX11_needs 149 = .ok (.bipush 115, 2) := by decide +kernel
theorem dX11_needs_151 : decode cX11_needs 151 = .ok (.if_icmp .ne 8, 3) := by decide +kernel
theorem dX11_needs_154 : decode cX11_needs 154 = .ok (.bipush 13, 2) := by decide +kernel
theorem dX11_needs_156 : decode cX11_needs 156 = .ok (.goto 5, 3) := by decide +kernel
theorem dX11_needs_159 : decode cX11_needs 159 = .ok (.bipush 29, 2) := by decide +kernel
theorem dX11_needs_161 : decode cX11_needs 161 = .ok (.iload_n 2, 1) := by decide +kernel
theorem dX11_needs_162 : decode cX11_needs 162 = .ok (.iadd, 1) := by decide +kernel
theorem dX11_needs_163 : decode cX11_needs 163 = .ok (.invokevirtual 306, 3) := by decide +kernel
theorem dX11_needs_166 : decode cX11_needs 166 = .ok (.goto 33, 3) := by decide +kernel
theorem dX11_needs_169 : decode cX11_needs 169 = .ok (.iload_n 1, 1) := by decide +kernel
theorem dX11_needs_170 : decode cX11_needs 170 = .ok (.bipush 110, 2) := by decide +kernel
theorem dX11_needs_172 : decode cX11_needs 172 = .ok (.if_icmp .ne 27, 3) := by decide +kernel
theorem dX11_needs_175 : decode cX11_needs 175 = .ok (.iconst 0, 1) := by decide +kernel
theorem dX11_needs_176 : decode cX11_needs 176 = .ok (.istore 4, 2) := by decide +kernel
theorem dX11_needs_178 : decode cX11_needs 178 = .ok (.iload 4, 2) := by decide +kernel
theorem dX11_needs_180 : decode cX11_needs 180 = .ok (.bipush 10, 2) := by decide +kernel
theorem dX11_needs_182 : decode cX11_needs 182 = .ok (.if_icmp .ge 17, 3) := by decide +kernel
theorem dX11_needs_185 : decode cX11_needs 185 = .ok (.aload_n 0, 1) := by decide +kernel
theorem dX11_needs_186 : decode cX11_needs 186 = .ok (.iconst 3, 1) := by decide +kernel
theorem dX11_needs_187 : decode cX11_needs 187 = .ok (.iload 4, 2) := by decide +kernel
theorem dX11_needs_189 : decode cX11_needs 189 = .ok (.iadd, 1) := by decide +kernel
theorem dX11_needs_190 : decode cX11_needs 190 = .ok (.invokevirtual 306, 3) := by decide +kernel
theorem dX11_needs_193 : decode cX11_needs 193 = .ok (.iinc 4 1, 3) := by decide +kernel
theorem dX11_needs_196 : decode cX11_needs 196 = .ok (.goto (-18), 3) := by decide +kernel
theorem dX11_needs_199 : decode cX11_needs 199 = .ok (.return_, 1) := by decide +kernel
theorem dX11_domain_0 : decode cX11_domain 0 = .ok (.iload_n 1, 1) := by decide +kernel
theorem dX11_domain_1 : decode cX11_domain 1 = .ok (.ifCond .ne 8, 3) := by decide +kernel
theorem dX11_domain_4 : decode cX11_domain 4 = .ok (.bipush 10, 2) := by decide +kernel
theorem dX11_domain_6 : decode cX11_domain 6 = .ok (.goto 26, 3) := by decide +kernel
theorem dX11_domain_9 : decode cX11_domain 9 = .ok (.iload_n 1, 1) := by decide +kernel
theorem dX11_domain_10 : decode cX11_domain 10 = .ok (.iconst 1, 1) := by decide +kernel
theorem dX11_domain_11 : decode cX11_domain 11 = .ok (.if_icmp .ne 8, 3) := by decide +kernel
theorem dX11_domain_14 : decode cX11_domain 14 = .ok (.bipush 7, 2) := by decide +kernel
theorem dX11_domain_16 : decode cX11_domain 16 = .ok (.goto 16, 3) := by decide +kernel
theorem dX11_domain_19 : decode cX11_domain 19 = .ok (.iload_n 1, 1) := by decide +kernel
theorem dX11_domain_20 : decode cX11_domain 20 = .ok (.iconst 2, 1) := by decide +kernel
theorem dX11_domain_21 : decode cX11_domain 21 = .ok (.if_icmp .ne 10, 3) := by decide +kernel
theorem dX11_domain_24 : decode cX11_domain 24 = .ok (.aload_n 0, 1) := by decide +kernel
theorem dX11_domain_25 : decode cX11_domain 25 = .ok (.getfield 296, 3) := by decide +kernel
theorem dX11_domain_28 : decode cX11_domain 28 = .ok (.goto 4, 3) := by decide +kernel
theorem dX11_domain_31 : decode cX11_domain 31 = .ok (.iconst 2, 1) := by decide +kernel
theorem dX11_domain_32 : decode cX11_domain 32 = .ok (.ireturn, 1) := by decide +kernel
theorem dX11_counted_0 : decode cX11_counted 0 = .ok (.iconst 0, 1) := by decide +kernel
theorem dX11_counted_1 : decode cX11_counted 1 = .ok (.istore_n 2, 1) := by decide +kernel
theorem dX11_counted_2 : decode cX11_counted 2 = .ok (.iconst 0, 1) := by decide +kernel
theorem dX11_counted_3 : decode cX11_counted 3 = .ok (.istore_n 3, 1) := by decide +kernel
theorem dX11_counted_4 : decode cX11_counted 4 = .ok (.iload_n 3, 1) := by decide +kernel
theorem dX11_counted_5 : decode cX11_counted 5 = .ok (.bipush 10, 2) := by decide +kernel
theorem dX11_counted_7 : decode cX11_counted 7 = .ok (.if_icmp .ge 45, 3) := by decide +kernel
theorem dX11_counted_10 : decode cX11_counted 10 = .ok (.iload_n 2, 1) := by decide +kernel
theorem dX11_counted_11 : decode cX11_counted 11 = .ok (.aload_n 0, 1) := by decide +kernel
theorem dX11_counted_12 : decode cX11_counted 12 = .ok (.getfield 105, 3) := by decide +kernel
theorem dX11_counted_15 : decode cX11_counted 15 = .ok (.iconst 3, 1) := by decide +kernel
theorem dX11_counted_16 : decode cX11_counted 16 = .ok (.iload_n 3, 1) := by decide +kernel
theorem dX11_counted_17 : decode cX11_counted 17 = .ok (.iadd, 1) := by decide +kernel
theorem dX11_counted_18 : decode cX11_counted 18 = .ok (.iaload, 1) := by decide +kernel
theorem dX11_counted_19 : decode cX11_counted 19 = .ok (.iconst 1, 1) := by decide +kernel
theorem dX11_counted_20 : decode cX11_counted 20 = .ok (.if_icmp .eq 19, 3) := by decide +kernel
theorem dX11_counted_23 : decode cX11_counted 23 = .ok (.iload_n 1, 1) := by decide +kernel
theorem dX11_counted_24 : decode cX11_counted 24 = .ok (.ifCond .eq 19, 3) := by decide +kernel
theorem dX11_counted_27 : decode cX11_counted 27 = .ok (.aload_n 0, 1) := by decide +kernel
theorem dX11_counted_28 : decode cX11_counted 28 = .ok (.getfield 105, 3) := by decide +kernel
theorem dX11_counted_31 : decode cX11_counted 31 = .ok (.iconst 3, 1) := by decide +kernel
theorem dX11_counted_32 : decode cX11_counted 32 = .ok (.iload_n 3, 1) := by decide +kernel
theorem dX11_counted_33 : decode cX11_counted 33 = .ok (.iadd, 1) := by decide +kernel
theorem dX11_counted_34 : decode cX11_counted 34 = .ok (.iaload, 1) := by decide +kernel
theorem dX11_counted_35 : decode cX11_counted 35 = .ok (.iconst (-1), 1) := by decide +kernel
theorem dX11_counted_36 : decode cX11_counted 36 = .ok (.if_icmp .ne 7, 3) := by decide +kernel
theorem dX11_counted_39 : decode cX11_counted 39 = .ok (.iconst 1, 1) := by decide +kernel
theorem dX11_counted_40 : decode cX11_counted 40 = .ok (.goto 4, 3) := by decide +kernel
theorem dX11_counted_43 : decode cX11_counted 43 = .ok (.iconst 0, 1) := by decide +kernel
theorem dX11_counted_44 : decode cX11_counted 44 = .ok (.iadd, 1) := by decide +kernel
theorem dX11_counted_45 : decode cX11_counted 45 = .ok (.istore_n 2, 1) := by decide +kernel
theorem dX11_counted_46 : decode cX11_counted 46 = .ok (.iinc 3 1, 3) := by decide +kernel
theorem dX11_counted_49 : decode cX11_counted 49 = .ok (.goto (-45), 3) := by decide +kernel
theorem dX11_counted_52 : decode cX11_counted 52 = .ok (.iload_n 2, 1) := by decide +kernel
theorem dX11_counted_53 : decode cX11_counted 53 = .ok (.ireturn, 1) := by decide +kernel
theorem dX11_canBe_0 : decode cX11_canBe 0 = .ok (.iload_n 1, 1) := by decide +kernel
theorem dX11_canBe_1 : decode cX11_canBe 1 = .ok (.bipush 102, 2) := by decide +kernel
theorem dX11_canBe_3 : decode cX11_canBe 3 = .ok (.if_icmp .ne 7, 3) := by decide +kernel
theorem dX11_canBe_6 : decode cX11_canBe 6 = .ok (.iconst 0, 1) := by decide +kernel
theorem dX11_canBe_7 : decode cX11_canBe 7 = .ok (.goto 52, 3) := by decide +kernel
theorem dX11_canBe_10 : decode cX11_canBe 10 = .ok (.iload_n 1, 1) := by decide +kernel
theorem dX11_canBe_11 : decode cX11_canBe 11 = .ok (.bipush 100, 2) := by decide +kernel
theorem dX11_canBe_13 : decode cX11_canBe 13 = .ok (.if_icmp .ne 7, 3) := by decide +kernel
theorem dX11_canBe_16 : decode cX11_canBe 16 = .ok (.iconst 1, 1) := by decide +kernel
theorem dX11_canBe_17 : decode cX11_canBe 17 = .ok (.goto 42, 3) := by decide +kernel
theorem dX11_canBe_20 : decode cX11_canBe 20 = .ok (.iload_n 1, 1) := by decide +kernel
theorem dX11_canBe_21 : decode cX11_canBe 21 = .ok (.bipush 122, 2) := by decide +kernel
theorem dX11_canBe_23 : decode cX11_canBe 23 = .ok (.if_icmp .ne 7, 3) := by decide +kernel
theorem dX11_canBe_26 : decode cX11_canBe 26 = .ok (.iconst 2, 1) := by decide +kernel
theorem dX11_canBe_27 : decode cX11_canBe 27 = .ok (.goto 32, 3) := by decide +kernel
theorem dX11_canBe_30 : decode cX11_canBe 30 = .ok (.iload_n 1, 1) := by decide +kernel
theorem dX11_canBe_31 : decode cX11_canBe 31 = .ok (.bipush 116, 2) := by decide +kernel
theorem dX11_canBe_33 : decode cX11_canBe 33 = .ok (.if_icmp .ne 9, 3) := by decide +kernel
theorem dX11_canBe_36 : decode cX11_canBe 36 = .ok (.iconst 3, 1) := by decide +kernel
theorem dX11_canBe_37 : decode cX11_canBe 37 = .ok (.iload_n 2, 1) := by decide +kernel
theorem dX11_canBe_38 : decode cX11_canBe 38 = .ok (.iadd, 1) := by decide +kernel
theorem dX11_canBe_39 : decode cX11_canBe 39 = .ok (.goto 20, 3) := by decide +kernel
theorem dX11_canBe_42 : decode cX11_canBe 42 = .ok (.iload_n 1, 1) := by decide +kernel
theorem dX11_canBe_43 : decode cX11_canBe 43 = .ok (.bipush 115, 2) := by decide +kernel
theorem dX11_canBe_45 : decode cX11_canBe 45 = .ok (.if_icmp .ne 10, 3) := by decide +kernel
theorem dX11_canBe_48 : decode cX11_canBe 48 = .ok (.bipush 13, 2) := by decide +kernel
theorem dX11_canBe_50 : decode cX11_canBe 50 = .ok (.iload_n 2, 1) := by decide +kernel
theorem dX11_canBe_51 : decode cX11_canBe 51 = .ok (.iadd, 1) := by decide +kernel
theorem dX11_canBe_52 : decode cX11_canBe 52 = .ok (.goto 7, 3) := by decide +kernel
theorem dX11_canBe_55 : decode cX11_canBe 55 = .ok (.bipush 29, 2) := by decide +kernel
theorem dX11_canBe_57 : decode cX11_canBe 57 = .ok (.iload_n 2, 1) := by decide +kernel
theorem dX11_canBe_58 : decode cX11_canBe 58 = .ok (.iadd, 1) := by decide +kernel
theorem dX11_canBe_59 : decode cX11_canBe 59 = .ok (.istore 4, 2) := by decide +kernel
theorem dX11_canBe_61 : decode cX11_canBe 61 = .ok (.iload_n 1, 1) := by decide +kernel
theorem dX11_canBe_62 : decode cX11_canBe 62 = .ok (.bipush 97, 2) := by decide +kernel
theorem dX11_canBe_64 : decode cX11_canBe 64 = .ok (.if_icmp .eq 9, 3) := by decide +kernel
theorem dX11_canBe_67 : decode cX11_canBe 67 = .ok (.iload_n 1, 1) := by decide +kernel
theorem dX11_canBe_68 : decode cX11_canBe 68 = .ok (.bipush 107, 2) := by decide +kernel
theorem dX11_canBe_70 : decode cX11_canBe 70 = .ok (.if_icmp .ne 19, 3) := by decide +kernel
theorem dX11_canBe_73 : decode cX11_canBe 73 = .ok (.iload_n 1, 1) := by decide +kernel
theorem dX11_canBe_74 : decode cX11_canBe 74 = .ok (.bipush 107, 2) := by decide +kernel
theorem dX11_canBe_76 : decode cX11_canBe 76 = .ok (.if_icmp .eq 7, 3) := by decide +kernel
theorem dX11_canBe_79 : decode cX11_canBe 79 = .ok (.iload_n 3, 1) := by decide +kernel
theorem dX11_canBe_80 : decode cX11_canBe 80 = .ok (.ifCond .eq 7, 3) := by decide +kernel
theorem dX11_canBe_83 : decode cX11_canBe 83 = .ok (.iconst 1, 1) := by decide +kernel
theorem dX11_canBe_84 : decode cX11_canBe 84 = .ok (.goto 4, 3) := by decide +kernel
theorem dX11_canBe_87 : decode cX11_canBe 87 = .ok (.iconst 0, 1) := by decide +kernel
theorem dX11_canBe_88 : decode cX11_canBe 88 = .ok (.ireturn, 1) := by decide +kernel
theorem dX11_canBe_89 : decode cX11_canBe 89 = .ok (.iload_n 1, 1) := by decide +kernel
theorem dX11_canBe_90 : decode cX11_canBe 90 = .ok (.bipush 110, 2) := by decide +kernel
theorem dX11_canBe_92 : decode cX11_canBe 92 = .ok (.if_icmp .ne 44, 3) := by decide +kernel
theorem dX11_canBe_95 : decode cX11_canBe 95 = .ok (.iload_n 3, 1) := by decide +kernel
theorem dX11_canBe_96 : decode cX11_canBe 96 = .ok (.ifCond .eq 20, 3) := by decide +kernel
theorem dX11_canBe_99 : decode cX11_canBe 99 = .ok (.aload_n 0, 1) := by decide +kernel
theorem dX11_canBe_100 : decode cX11_canBe 100 = .ok (.iconst 1, 1) := by decide +kernel
theorem dX11_canBe_101 : decode cX11_canBe 101 = .ok (.invokevirtual 309, 3) := by decide +kernel
theorem dX11_canBe_104 : decode cX11_canBe 104 = .ok (.iload_n 2, 1) := by decide +kernel
theorem dX11_canBe_105 : decode cX11_canBe 105 = .ok (.if_icmp .lt 7, 3) := by decide +kernel
theorem dX11_canBe_108 : decode cX11_canBe 108 = .ok (.iconst 1, 1) := by decide +kernel
theorem dX11_canBe_109 : decode cX11_canBe 109 = .ok (.goto 26, 3) := by decide +kernel
theorem dX11_canBe_112 : decode cX11_canBe 112 = .ok (.iconst 0, 1) := by decide +kernel
theorem dX11_canBe_113 : decode cX11_canBe 113 = .ok (.goto 22, 3) := by decide +kernel
theorem dX11_canBe_116 : decode cX11_canBe 116 = .ok (.iload_n 2, 1) := by decide +kernel
theorem dX11_canBe_117 : decode cX11_canBe 117 = .ok (.iconst 1, 1) := by decide +kernel
theorem dX11_canBe_118 : decode cX11_canBe 118 = .ok (.if_icmp .le 16, 3) := by decide +kernel
theorem dX11_canBe_121 : decode cX11_canBe 121 = .ok (.aload_n 0, 1) := by decide +kernel
theorem dX11_canBe_122 : decode cX11_canBe 122 = .ok (.iconst 0, 1) := by decide +kernel
theorem dX11_canBe_123 : decode cX11_canBe 123 = .ok (.invokevirtual 309, 3) := by decide +kernel
theorem dX11_canBe_126 : decode cX11_canBe 126 = .ok (.iload_n 2, 1) := by decide +kernel
theorem dX11_canBe_127 : decode cX11_canBe 127 = .ok (.if_icmp .ge 7, 3) := by decide +kernel
theorem dX11_canBe_130 : decode cX11_canBe 130 = .ok (.iconst 1, 1) := by decide +kernel
theorem dX11_canBe_131 : decode cX11_canBe 131 = .ok (.goto 4, 3) := by decide +kernel
theorem dX11_canBe_134 : decode cX11_canBe 134 = .ok (.iconst 0, 1) := by decide +kernel
theorem dX11_canBe_135 : decode cX11_canBe 135 = .ok (.ireturn, 1) := by decide +kernel
theorem dX11_canBe_136 : decode cX11_canBe 136 = .ok (.aload_n 0, 1) := by decide +kernel
theorem dX11_canBe_137 : decode cX11_canBe 137 = .ok (.getfield 105, 3) := by decide +kernel
theorem dX11_canBe_140 : decode cX11_canBe 140 = .ok (.iload 4, 2) := by decide +kernel
theorem dX11_canBe_142 : decode cX11_canBe 142 = .ok (.iaload, 1) := by decide +kernel
theorem dX11_canBe_143 : decode cX11_canBe 143 = .ok (.iconst (-1), 1) := by decide +kernel
theorem dX11_canBe_144 : decode cX11_canBe 144 = .ok (.if_icmp .ne 33, 3) := by decide +kernel
theorem dX11_canBe_147 : decode cX11_canBe 147 = .ok (.iload_n 1, 1) := by decide +kernel
theorem dX11_canBe_148 : decode cX11_canBe 148 = .ok (.bipush 122, 2) := by decide +kernel
theorem dX11_canBe_150 : decode cX11_canBe 150 = .ok (.if_icmp .ne 21, 3) := by decide +kernel
theorem dX11_canBe_153 : decode cX11_canBe 153 = .ok (.iload_n 3, 1) := by decide +kernel
theorem dX11_canBe_154 : decode cX11_canBe 154 = .ok (.ifCond .eq 13, 3) := by decide +kernel
theorem dX11_canBe_157 : decode cX11_canBe 157 = .ok (.iload_n 2, 1) := by decide +kernel
theorem dX11_canBe_158 : decode cX11_canBe 158 = .ok (.sipush 999, 3) := by decide +kernel
theorem dX11_canBe_161 : decode cX11_canBe 161 = .ok (.if_icmp .ge 14, 3) := by decide +kernel
theorem dX11_canBe_164 : decode cX11_canBe 164 = .ok (.goto 7, 3) := by decide +kernel
theorem dX11_canBe_167 : decode cX11_canBe 167 = .ok (.iload_n 2, 1) := by decide +kernel
theorem dX11_canBe_168 : decode cX11_canBe 168 = .ok (.ifCond .le 7, 3) := by decide +kernel
theorem dX11_canBe_171 : decode cX11_canBe 171 = .ok (.iconst 1, 1) := by decide +kernel
theorem dX11_canBe_172 : decode cX11_canBe 172 = .ok (.goto 4, 3) := by decide +kernel
theorem dX11_canBe_175 : decode cX11_canBe 175 = .ok (.iconst 0, 1) := by decide +kernel
theorem dX11_canBe_176 : decode cX11_canBe 176 = .ok (.ireturn, 1) := by decide +kernel
theorem dX11_canBe_177 : decode cX11_canBe 177 = .ok (.iload_n 1, 1) := by decide +kernel
theorem dX11_canBe_178 : decode cX11_canBe 178 = .ok (.bipush 102, 2) := by decide +kernel
theorem dX11_canBe_180 : decode cX11_canBe 180 = .ok (.if_icmp .eq 9, 3) := by decide +kernel
theorem dX11_canBe_183 : decode cX11_canBe 183 = .ok (.iload_n 1, 1) := by decide +kernel
theorem dX11_canBe_184 : decode cX11_canBe 184 = .ok (.bipush 100, 2) := by decide +kernel
theorem dX11_canBe_186 : decode cX11_canBe 186 = .ok (.if_icmp .ne 22, 3) := by decide +kernel
theorem dX11_canBe_189 : decode cX11_canBe 189 = .ok (.aload_n 0, 1) := by decide +kernel
theorem dX11_canBe_190 : decode cX11_canBe 190 = .ok (.getfield 105, 3) := by decide +kernel
theorem dX11_canBe_193 : decode cX11_canBe 193 = .ok (.iload 4, 2) := by decide +kernel
theorem dX11_canBe_195 : decode cX11_canBe 195 = .ok (.iaload, 1) := by decide +kernel
theorem dX11_canBe_196 : decode cX11_canBe 196 = .ok (.iload_n 2, 1) := by decide +kernel
theorem dX11_canBe_197 : decode cX11_canBe 197 = .ok (.if_icmp .ne 7, 3) := by decide +kernel
theorem dX11_canBe_200 : decode cX11_canBe 200 = .ok (.iconst 1, 1) := by decide +kernel
theorem dX11_canBe_201 : decode cX11_canBe 201 = .ok (.goto 53, 3) := by decide +kernel
theorem dX11_canBe_204 : decode cX11_canBe 204 = .ok (.iconst 0, 1) := by decide +kernel
theorem dX11_canBe_205 : decode cX11_canBe 205 = .ok (.goto 49, 3) := by decide +kernel
theorem dX11_canBe_208 : decode cX11_canBe 208 = .ok (.iload_n 1, 1) := by decide +kernel
theorem dX11_canBe_209 : decode cX11_canBe 209 = .ok (.bipush 122, 2) := by decide +kernel
theorem dX11_canBe_211 : decode cX11_canBe 211 = .ok (.if_icmp .ne 27, 3) := by decide +kernel
theorem dX11_canBe_214 : decode cX11_canBe 214 = .ok (.aload_n 0, 1) := by decide +kernel
theorem dX11_canBe_215 : decode cX11_canBe 215 = .ok (.getfield 126, 3) := by decide +kernel
theorem dX11_canBe_218 : decode cX11_canBe 218 = .ok (.aload_n 0, 1) := by decide +kernel
theorem dX11_canBe_219 : decode cX11_canBe 219 = .ok (.getfield 105, 3) := by decide +kernel
theorem dX11_canBe_222 : decode cX11_canBe 222 = .ok (.iload 4, 2) := by decide +kernel
theorem dX11_canBe_224 : decode cX11_canBe 224 = .ok (.iaload, 1) := by decide +kernel
theorem dX11_canBe_225 : decode cX11_canBe 225 = .ok (.iaload, 1) := by decide +kernel
theorem dX11_canBe_226 : decode cX11_canBe 226 = .ok (.iload_n 2, 1) := by decide +kernel
theorem dX11_canBe_227 : decode cX11_canBe 227 = .ok (.if_icmp .le 7, 3) := by decide +kernel
theorem dX11_canBe_230 : decode cX11_canBe 230 = .ok (.iconst 1, 1) := by decide +kernel
theorem dX11_canBe_231 : decode cX11_canBe 231 = .ok (.goto 23, 3) := by decide +kernel
theorem dX11_canBe_234 : decode cX11_canBe 234 = .ok (.iconst 0, 1) := by decide +kernel
theorem dX11_canBe_235 : decode cX11_canBe 235 = .ok (.goto 19, 3) := by decide +kernel
theorem dX11_canBe_238 : decode cX11_canBe 238 = .ok (.aload_n 0, 1) := by decide +kernel
theorem dX11_canBe_239 : decode cX11_canBe 239 = .ok (.getfield 105, 3) := by decide +kernel
theorem dX11_canBe_242 : decode cX11_canBe 242 = .ok (.iload 4, 2) := by decide +kernel
theorem dX11_canBe_244 : decode cX11_canBe 244 = .ok (.iaload, 1) := by decide +kernel
theorem dX11_canBe_245 : decode cX11_canBe 245 = .ok (.iconst 1, 1) := by decide +kernel
theorem dX11_canBe_246 : decode cX11_canBe 246 = .ok (.if_icmp .ne 7, 3) := by decide +kernel
theorem dX11_canBe_249 : decode cX11_canBe 249 = .ok (.iconst 1, 1) := by decide +kernel
theorem dX11_canBe_250 : decode cX11_canBe 250 = .ok (.goto 4, 3) := by decide +kernel
theorem dX11_canBe_253 : decode cX11_canBe 253 = .ok (.iconst 0, 1) := by decide +kernel
theorem dX11_canBe_254 : decode cX11_canBe 254 = .ok (.istore 5, 2) := by decide +kernel
theorem dX11_canBe_256 : decode cX11_canBe 256 = .ok (.iload 5, 2) := by decide +kernel
theorem dX11_canBe_258 : decode cX11_canBe 258 = .ok (.iload_n 3, 1) := by decide +kernel
theorem dX11_canBe_259 : decode cX11_canBe 259 = .ok (.if_icmp .ne 7, 3) := by decide +kernel
theorem dX11_canBe_262 : decode cX11_canBe 262 = .ok (.iconst 1, 1) := by decide +kernel
theorem dX11_canBe_263 : decode cX11_canBe 263 = .ok (.goto 4, 3) := by decide +kernel
theorem dX11_canBe_266 : decode cX11_canBe 266 = .ok (.iconst 0, 1) := by decide +kernel
theorem dX11_canBe_267 : decode cX11_canBe 267 = .ok (.ireturn, 1) := by decide +kernel
theorem dX11_isPossible_0 : decode cX11_isPossible 0 = .ok (.aload_n 0, 1) := by decide +kernel
theorem dX11_isPossible_1 : decode cX11_isPossible 1 = .ok (.iconst 1, 1) := by decide +kernel
theorem dX11_isPossible_2 : decode cX11_isPossible 2 = .ok (.invokevirtual 309, 3) := by decide +kernel
theorem dX11_isPossible_5 : decode cX11_isPossible 5 = .ok (.ifCond .ne 5, 3) := by decide +kernel
theorem dX11_isPossible_8 : decode cX11_isPossible 8 = .ok (.iconst 0, 1) := by decide +kernel
theorem dX11_isPossible_9 : decode cX11_isPossible 9 = .ok (.ireturn, 1) := by decide +kernel
theorem dX11_isPossible_10 : decode cX11_isPossible 10 = .ok (.iconst 0, 1) := by decide +kernel
theorem dX11_isPossible_11 : decode cX11_isPossible 11 = .ok (.istore_n 1, 1) := by decide +kernel
theorem dX11_isPossible_12 : decode cX11_isPossible 12 = .ok (.iload_n 1, 1) := by decide +kernel
theorem dX11_isPossible_13 : decode cX11_isPossible 13 = .ok (.aload_n 0, 1) := by decide +kernel
theorem dX11_isPossible_14 : decode cX11_isPossible 14 = .ok (.getfield 173, 3) := by decide +kernel
theorem dX11_isPossible_17 : decode cX11_isPossible 17 = .ok (.if_icmp .ge 308, 3) := by decide +kernel
theorem dX11_isPossible_20 : decode cX11_isPossible 20 = .ok (.aload_n 0, 1) := by decide +kernel
theorem dX11_isPossible_21 : decode cX11_isPossible 21 = .ok (.getfield 117, 3) := by decide +kernel
theorem dX11_isPossible_24 : decode cX11_isPossible 24 = .ok (.iload_n 1, 1) := by decide +kernel
theorem dX11_isPossible_25 : decode cX11_isPossible 25 = .ok (.baload, 1) := by decide +kernel
theorem dX11_isPossible_26 : decode cX11_isPossible 26 = .ok (.ifCond .eq 293, 3) := by decide +kernel
theorem dX11_isPossible_29 : decode cX11_isPossible 29 = .ok (.aload_n 0, 1) := by decide +kernel
theorem dX11_isPossible_30 : decode cX11_isPossible 30 = .ok (.getfield 59, 3) := by decide +kernel
theorem dX11_isPossible_33 : decode cX11_isPossible 33 = .ok (.iload_n 1, 1) := by decide +kernel
theorem dX11_isPossible_34 : decode cX11_isPossible 34 = .ok (.caload, 1) := by decide +kernel
theorem dX11_isPossible_35 : decode cX11_isPossible 35 = .ok (.istore_n 2, 1) := by decide +kernel
theorem dX11_isPossible_36 : decode cX11_isPossible 36 = .ok (.aload_n 0, 1) := by decide +kernel
theorem dX11_isPossible_37 : decode cX11_isPossible 37 = .ok (.getfield 63, 3) := by decide +kernel
theorem dX11_isPossible_40 : decode cX11_isPossible 40 = .ok (.iload_n 1, 1) := by decide +kernel
theorem dX11_isPossible_41 : decode cX11_isPossible 41 = .ok (.iaload, 1) := by decide +kernel
theorem dX11_isPossible_42 : decode cX11_isPossible 42 = .ok (.istore_n 3, 1) := by decide +kernel
theorem dX11_isPossible_43 : decode cX11_isPossible 43 = .ok (.iload_n 2, 1) := by decide +kernel
theorem dX11_isPossible_44 : decode cX11_isPossible 44 = .ok (.bipush 33, 2) := by decide +kernel
theorem dX11_isPossible_46 : decode cX11_isPossible 46 = .ok (.if_icmp .eq 10, 3) := by decide +kernel
theorem dX11_isPossible_49 : decode cX11_isPossible 49 = .ok (.iload_n 2, 1) := by decide +kernel
theorem dX11_isPossible_50 : decode cX11_isPossible 50 = .ok (.invokestatic 169, 3) := by decide +kernel
theorem dX11_isPossible_53 : decode cX11_isPossible 53 = .ok (.ifCond .eq 7, 3) := by decide +kernel
theorem dX11_isPossible_56 : decode cX11_isPossible 56 = .ok (.iconst 1, 1) := by decide +kernel
theorem dX11_isPossible_57 : decode cX11_isPossible 57 = .ok (.goto 4, 3) := by decide +kernel
theorem dX11_isPossible_60 : decode cX11_isPossible 60 = .ok (.iconst 0, 1) := by decide +kernel
theorem dX11_isPossible_61 : decode cX11_isPossible 61 = .ok (.istore 4, 2) := by decide +kernel
theorem dX11_isPossible_63 : decode cX11_isPossible 63 = .ok (.iload_n 2, 1) := by decide +kernel
theorem dX11_isPossible_64 : decode cX11_isPossible 64 = .ok (.invokestatic 169, 3) := by decide +kernel
theorem dX11_isPossible_67 : decode cX11_isPossible 67 = .ok (.ifCond .eq 12, 3) := by decide +kernel
theorem dX11_isPossible_70 : decode cX11_isPossible 70 = .ok (.aload_n 0, 1) := by decide +kernel
theorem dX11_isPossible_71 : decode cX11_isPossible 71 = .ok (.getfield 66, 3) := by decide +kernel
theorem dX11_isPossible_74 : decode cX11_isPossible 74 = .ok (.iload_n 1, 1) := by decide +kernel
theorem dX11_isPossible_75 : decode cX11_isPossible 75 = .ok (.iaload, 1) := by decide +kernel
theorem dX11_isPossible_76 : decode cX11_isPossible 76 = .ok (.goto 13, 3) := by decide +kernel
theorem dX11_isPossible_79 : decode cX11_isPossible 79 = .ok (.iload 4, 2) := by decide +kernel
theorem dX11_isPossible_81 : decode cX11_isPossible 81 = .ok (.ifCond .eq 7, 3) := by decide +kernel
theorem dX11_isPossible_84 : decode cX11_isPossible 84 = .ok (.iload_n 3, 1) := by decide +kernel
theorem dX11_isPossible_85 : decode cX11_isPossible 85 = .ok (.goto 4, 3) := by decide +kernel
theorem dX11_isPossible_88 : decode cX11_isPossible 88 = .ok (.iconst 0, 1) := by decide +kernel
theorem dX11_isPossible_89 : decode cX11_isPossible 89 = .ok (.istore 5, 2) := by decide +kernel
theorem dX11_isPossible_91 : decode cX11_isPossible 91 = .ok (.aload_n 0, 1) := by decide +kernel
theorem dX11_isPossible_92 : decode cX11_isPossible 92 = .ok (.getfield 120, 3) := by decide +kernel
theorem dX11_isPossible_95 : decode cX11_isPossible 95 = .ok (.iload_n 1, 1) := by decide +kernel
theorem dX11_isPossible_96 : decode cX11_isPossible 96 = .ok (.iload 4, 2) := by decide +kernel
theorem dX11_isPossible_98 : decode cX11_isPossible 98 = .ok (.ifCond .ne 13, 3) := by decide +kernel
theorem dX11_isPossible_101 : decode cX11_isPossible 101 = .ok (.aload_n 0, 1) := by decide +kernel
theorem dX11_isPossible_102 : decode cX11_isPossible 102 = .ok (.iload_n 2, 1) := by decide +kernel
theorem dX11_isPossible_103 : decode cX11_isPossible 103 = .ok (.iload_n 3, 1) := by decide +kernel
theorem dX11_isPossible_104 : decode cX11_isPossible 104 = .ok (.iconst 1, 1) := by decide +kernel
theorem dX11_isPossible_105 : decode cX11_isPossible 105 = .ok (.invokevirtual 313, 3) := by decide +kernel
theorem dX11_isPossible_108 : decode cX11_isPossible 108 = .ok (.goto 75, 3) := by decide +kernel
theorem dX11_isPossible_111 : decode cX11_isPossible 111 = .ok (.iload_n 2, 1) := by decide +kernel
theorem dX11_isPossible_112 : decode cX11_isPossible 112 = .ok (.bipush 33, 2) := by decide +kernel
theorem dX11_isPossible_114 : decode cX11_isPossible 114 = .ok (.if_icmp .ne 12, 3) := by decide +kernel
theorem dX11_isPossible_117 : decode cX11_isPossible 117 = .ok (.aload_n 0, 1) := by decide +kernel
theorem dX11_isPossible_118 : decode cX11_isPossible 118 = .ok (.getfield 123, 3) := by decide +kernel
theorem dX11_isPossible_121 : decode cX11_isPossible 121 = .ok (.iload_n 3, 1) := by decide +kernel
theorem dX11_isPossible_122 : decode cX11_isPossible 122 = .ok (.baload, 1) := by decide +kernel
theorem dX11_isPossible_123 : decode cX11_isPossible 123 = .ok (.goto 60, 3) := by decide +kernel
theorem dX11_isPossible_126 : decode cX11_isPossible 126 = .ok (.iload_n 2, 1) := by decide +kernel
theorem dX11_isPossible_127 : decode cX11_isPossible 127 = .ok (.bipush 38, 2) := by decide +kernel
theorem dX11_isPossible_129 : decode cX11_isPossible 129 = .ok (.if_icmp .ne 30, 3) := by decide +kernel
theorem dX11_isPossible_132 : decode cX11_isPossible 132 = .ok (.aload_n 0, 1) := by decide +kernel
theorem dX11_isPossible_133 : decode cX11_isPossible 133 = .ok (.getfield 120, 3) := by decide +kernel
theorem dX11_isPossible_136 : decode cX11_isPossible 136 = .ok (.iload_n 3, 1) := by decide +kernel
theorem dX11_isPossible_137 : decode cX11_isPossible 137 = .ok (.baload, 1) := by decide +kernel
theorem dX11_isPossible_138 : decode cX11_isPossible 138 = .ok (.ifCond .eq 17, 3) := by decide +kernel
theorem dX11_isPossible_141 : decode cX11_isPossible 141 = .ok (.aload_n 0, 1) := by decide +kernel
theorem dX11_isPossible_142 : decode cX11_isPossible 142 = .ok (.getfield 120, 3) := by decide +kernel
theorem dX11_isPossible_145 : decode cX11_isPossible 145 = .ok (.iload 5, 2) := by decide +kernel
theorem dX11_isPossible_147 : decode cX11_isPossible 147 = .ok (.baload, 1) := by decide +kernel
theorem dX11_isPossible_148 : decode cX11_isPossible 148 = .ok (.ifCond .eq 7, 3) := by decide +kernel
theorem dX11_isPossible_151 : decode cX11_isPossible 151 = .ok (.iconst 1, 1) := by decide +kernel
theorem dX11_isPossible_152 : decode cX11_isPossible 152 = .ok (.goto 31, 3) := by decide +kernel
theorem dX11_isPossible_155 : decode cX11_isPossible 155 = .ok (.iconst 0, 1) := by decide +kernel
theorem dX11_isPossible_156 : decode cX11_isPossible 156 = .ok (.goto 27, 3) := by decide +kernel
theorem dX11_isPossible_159 : decode cX11_isPossible 159 = .ok (.aload_n 0, 1) := by decide +kernel
theorem dX11_isPossible_160 : decode cX11_isPossible 160 = .ok (.getfield 120, 3) := by decide +kernel
theorem dX11_isPossible_163 : decode cX11_isPossible 163 = .ok (.iload_n 3, 1) := by decide +kernel
theorem dX11_isPossible_164 : decode cX11_isPossible 164 = .ok (.baload, 1) := by decide +kernel
theorem dX11_isPossible_165 : decode cX11_isPossible 165 = .ok (.ifCond .ne 13, 3) := by decide +kernel
theorem dX11_isPossible_168 : decode cX11_isPossible 168 = .ok (.aload_n 0, 1) := by decide +kernel
theorem dX11_isPossible_169 : decode cX11_isPossible 169 = .ok (.getfield 120, 3) := by decide +kernel
theorem dX11_isPossible_172 : decode cX11_isPossible 172 = .ok (.iload 5, 2) := by decide +kernel
theorem dX11_isPossible_174 : decode cX11_isPossible 174 = .ok (.baload, 1) := by decide +kernel
theorem dX11_isPossible_175 : decode cX11_isPossible 175 = .ok (.ifCond .eq 7, 3) := by decide +kernel
theorem dX11_isPossible_178 : decode cX11_isPossible 178 = .ok (.iconst 1, 1) := by decide +kernel
theorem dX11_isPossible_179 : decode cX11_isPossible 179 = .ok (.goto 4, 3) := by decide +kernel
theorem dX11_isPossible_182 : decode cX11_isPossible 182 = .ok (.iconst 0, 1) := by decide +kernel
theorem dX11_isPossible_183 : decode cX11_isPossible 183 = .ok (.bastore, 1) := by decide +kernel
theorem dX11_isPossible_184 : decode cX11_isPossible 184 = .ok (.aload_n 0, 1) := by decide +kernel
theorem dX11_isPossible_185 : decode cX11_isPossible 185 = .ok (.getfield 123, 3) := by decide +kernel
theorem dX11_isPossible_188 : decode cX11_isPossible 188 = .ok (.iload_n 1, 1) := by decide +kernel
theorem dX11_isPossible_189 : decode cX11_isPossible 189 = .ok (.iload 4, 2) := by decide +kernel
theorem dX11_isPossible_191 : decode cX11_isPossible 191 = .ok (.ifCond .ne 13, 3) := by decide +kernel
theorem dX11_isPossible_194 : decode cX11_isPossible 194 = .ok (.aload_n 0, 1) := by decide +kernel
theorem dX11_isPossible_195 : decode cX11_isPossible 195 = .ok (.iload_n 2, 1) := by decide +kernel
theorem dX11_isPossible_196 : decode cX11_isPossible 196 = .ok (.iload_n 3, 1) := by decide +kernel
theorem dX11_isPossible_197 : decode cX11_isPossible 197 = .ok (.iconst 0, 1) := by decide +kernel
theorem dX11_isPossible_198 : decode cX11_isPossible 198 = .ok (.invokevirtual 313, 3) := by decide +kernel
theorem dX11_isPossible_201 : decode cX11_isPossible 201 = .ok (.goto 75, 3) := by decide +kernel
theorem dX11_isPossible_204 : decode cX11_isPossible 204 = .ok (.iload_n 2, 1) := by decide +kernel
theorem dX11_isPossible_205 : decode cX11_isPossible 205 = .ok (.bipush 33, 2) := by decide +kernel
theorem dX11_isPossible_207 : decode cX11_isPossible 207 = .ok (.if_icmp .ne 12, 3) := by decide +kernel
theorem dX11_isPossible_210 : decode cX11_isPossible 210 = .ok (.aload_n 0, 1) := by decide +kernel
theorem dX11_isPossible_211 : decode cX11_isPossible 211 = .ok (.getfield 120, 3) := by decide +kernel
theorem dX11_isPossible_214 : decode cX11_isPossible 214 = .ok (.iload_n 3, 1) := by decide +kernel
theorem dX11_isPossible_215 : decode cX11_isPossible 215 = .ok (.baload, 1) := by decide +kernel
theorem dX11_isPossible_216 : decode cX11_isPossible 216 = .ok (.goto 60, 3) := by decide +kernel
theorem dX11_isPossible_219 : decode cX11_isPossible 219 = .ok (.iload_n 2, 1) := by decide +kernel
theorem dX11_isPossible_220 : decode cX11_isPossible 220 = .ok (.bipush 38, 2) := by decide +kernel
theorem dX11_isPossible_222 : decode cX11_isPossible 222 = .ok (.if_icmp .ne 30, 3) := by decide +kernel
theorem dX11_isPossible_225 : decode cX11_isPossible 225 = .ok (.aload_n 0, 1) := by decide +kernel
theorem dX11_isPossible_226 : decode cX11_isPossible 226 = .ok (.getfield 123, 3) := by decide +kernel
theorem dX11_isPossible_229 : decode cX11_isPossible 229 = .ok (.iload_n 3, 1) := by decide +kernel
theorem dX11_isPossible_230 : decode cX11_isPossible 230 = .ok (.baload, 1) := by decide +kernel
theorem dX11_isPossible_231 : decode cX11_isPossible 231 = .ok (.ifCond .ne 13, 3) := by decide +kernel
theorem dX11_isPossible_234 : decode cX11_isPossible 234 = .ok (.aload_n 0, 1) := by decide +kernel
theorem dX11_isPossible_235 : decode cX11_isPossible 235 = .ok (.getfield 123, 3) := by decide +kernel
theorem dX11_isPossible_238 : decode cX11_isPossible 238 = .ok (.iload 5, 2) := by decide +kernel
theorem dX11_isPossible_240 : decode cX11_isPossible 240 = .ok (.baload, 1) := by decide +kernel
theorem dX11_isPossible_241 : decode cX11_isPossible 241 = .ok (.ifCond .eq 7, 3) := by decide +kernel
theorem dX11_isPossible_244 : decode cX11_isPossible 244 = .ok (.iconst 1, 1) := by decide +kernel
theorem dX11_isPossible_245 : decode cX11_isPossible 245 = .ok (.goto 31, 3) := by decide +kernel
theorem dX11_isPossible_248 : decode cX11_isPossible 248 = .ok (.iconst 0, 1) := by decide +kernel
theorem dX11_isPossible_249 : decode cX11_isPossible 249 = .ok (.goto 27, 3) := by decide +kernel
theorem dX11_isPossible_252 : decode cX11_isPossible 252 = .ok (.aload_n 0, 1) := by decide +kernel
theorem dX11_isPossible_253 : decode cX11_isPossible 253 = .ok (.getfield 123, 3) := by decide +kernel
theorem dX11_isPossible_256 : decode cX11_isPossible 256 = .ok (.iload_n 3, 1) := by decide +kernel
theorem dX11_isPossible_257 : decode cX11_isPossible 257 = .ok (.baload, 1) := by decide +kernel
theorem dX11_isPossible_258 : decode cX11_isPossible 258 = .ok (.ifCond .eq 17, 3) := by decide +kernel
theorem dX11_isPossible_261 : decode cX11_isPossible 261 = .ok (.aload_n 0, 1) := by decide +kernel
theorem dX11_isPossible_262 : decode cX11_isPossible 262 = .ok (.getfield 123, 3) := by decide +kernel
theorem dX11_isPossible_265 : decode cX11_isPossible 265 = .ok (.iload 5, 2) := by decide +kernel
theorem dX11_isPossible_267 : decode cX11_isPossible 267 = .ok (.baload, 1) := by decide +kernel
theorem dX11_isPossible_268 : decode cX11_isPossible 268 = .ok (.ifCond .eq 7, 3) := by decide +kernel
theorem dX11_isPossible_271 : decode cX11_isPossible 271 = .ok (.iconst 1, 1) := by decide +kernel
theorem dX11_isPossible_272 : decode cX11_isPossible 272 = .ok (.goto 4, 3) := by decide +kernel
theorem dX11_isPossible_275 : decode cX11_isPossible 275 = .ok (.iconst 0, 1) := by decide +kernel
theorem dX11_isPossible_276 : decode cX11_isPossible 276 = .ok (.bastore, 1) := by decide +kernel
theorem dX11_isPossible_277 : decode cX11_isPossible 277 = .ok (.aload_n 0, 1) := by decide +kernel
theorem dX11_isPossible_278 : decode cX11_isPossible 278 = .ok (.getfield 129, 3) := by decide +kernel
theorem dX11_isPossible_281 : decode cX11_isPossible 281 = .ok (.iload_n 1, 1) := by decide +kernel
theorem dX11_isPossible_282 : decode cX11_isPossible 282 = .ok (.iaload, 1) := by decide +kernel
theorem dX11_isPossible_283 : decode cX11_isPossible 283 = .ok (.iconst 2, 1) := by decide +kernel
theorem dX11_isPossible_284 : decode cX11_isPossible 284 = .ok (.irem, 1) := by decide +kernel
theorem dX11_isPossible_285 : decode cX11_isPossible 285 = .ok (.iconst 1, 1) := by decide +kernel
theorem dX11_isPossible_286 : decode cX11_isPossible 286 = .ok (.if_icmp .ne 12, 3) := by decide +kernel
theorem dX11_isPossible_289 : decode cX11_isPossible 289 = .ok (.aload_n 0, 1) := by decide +kernel
theorem dX11_isPossible_290 : decode cX11_isPossible 290 = .ok (.getfield 120, 3) := by decide +kernel
theorem dX11_isPossible_293 : decode cX11_isPossible 293 = .ok (.iload_n 1, 1) := by decide +kernel
theorem dX11_isPossible_294 : decode cX11_isPossible 294 = .ok (.baload, 1) := by decide +kernel
theorem dX11_isPossible_295 : decode cX11_isPossible 295 = .ok (.ifCond .eq 22, 3) := by decide +kernel
theorem dX11_isPossible_298 : decode cX11_isPossible 298 = .ok (.aload_n 0, 1) := by decide +kernel
theorem dX11_isPossible_299 : decode cX11_isPossible 299 = .ok (.getfield 129, 3) := by decide +kernel
theorem dX11_isPossible_302 : decode cX11_isPossible 302 = .ok (.iload_n 1, 1) := by decide +kernel
theorem dX11_isPossible_303 : decode cX11_isPossible 303 = .ok (.iaload, 1) := by decide +kernel
theorem dX11_isPossible_304 : decode cX11_isPossible 304 = .ok (.iconst 1, 1) := by decide +kernel
theorem dX11_isPossible_305 : decode cX11_isPossible 305 = .ok (.if_icmp .le 14, 3) := by decide +kernel
theorem dX11_isPossible_308 : decode cX11_isPossible 308 = .ok (.aload_n 0, 1) := by decide +kernel
theorem dX11_isPossible_309 : decode cX11_isPossible 309 = .ok (.getfield 123, 3) := by decide +kernel
theorem dX11_isPossible_312 : decode cX11_isPossible 312 = .ok (.iload_n 1, 1) := by decide +kernel
theorem dX11_isPossible_313 : decode cX11_isPossible 313 = .ok (.baload, 1) := by decide +kernel
theorem dX11_isPossible_314 : decode cX11_isPossible 314 = .ok (.ifCond .ne 5, 3) := by decide +kernel
theorem dX11_isPossible_317 : decode cX11_isPossible 317 = .ok (.iconst 0, 1) := by decide +kernel
theorem dX11_isPossible_318 : decode cX11_isPossible 318 = .ok (.ireturn, 1) := by decide +kernel
theorem dX11_isPossible_319 : decode cX11_isPossible 319 = .ok (.iinc 1 1, 3) := by decide +kernel
theorem dX11_isPossible_322 : decode cX11_isPossible 322 = .ok (.goto (-310), 3) := by decide +kernel
theorem dX11_isPossible_325 : decode cX11_isPossible 325 = .ok (.aload_n 0, 1) := by decide +kernel
theorem dX11_isPossible_326 : decode cX11_isPossible 326 = .ok (.getfield 317, 3) := by decide +kernel
theorem dX11_isPossible_329 : decode cX11_isPossible 329 = .ok (.iconst (-1), 1) := by decide +kernel
theorem dX11_isPossible_330 : decode cX11_isPossible 330 = .ok (.if_icmp .eq 51, 3) := by decide +kernel
theorem dX11_isPossible_333 : decode cX11_isPossible 333 = .ok (.aload_n 0, 1) := by decide +kernel
theorem dX11_isPossible_334 : decode cX11_isPossible 334 = .ok (.getfield 120, 3) := by decide +kernel
theorem dX11_isPossible_337 : decode cX11_isPossible 337 = .ok (.aload_n 0, 1) := by decide +kernel
theorem dX11_isPossible_338 : decode cX11_isPossible 338 = .ok (.getfield 317, 3) := by decide +kernel
theorem dX11_isPossible_341 : decode cX11_isPossible 341 = .ok (.baload, 1) := by decide +kernel
theorem dX11_isPossible_342 : decode cX11_isPossible 342 = .ok (.ifCond .eq 15, 3) := by decide +kernel
theorem dX11_isPossible_345 : decode cX11_isPossible 345 = .ok (.aload_n 0, 1) := by decide +kernel
theorem dX11_isPossible_346 : decode cX11_isPossible 346 = .ok (.getfield 123, 3) := by decide +kernel
theorem dX11_isPossible_349 : decode cX11_isPossible 349 = .ok (.aload_n 0, 1) := by decide +kernel
theorem dX11_isPossible_350 : decode cX11_isPossible 350 = .ok (.getfield 320, 3) := by decide +kernel
theorem dX11_isPossible_353 : decode cX11_isPossible 353 = .ok (.baload, 1) := by decide +kernel
theorem dX11_isPossible_354 : decode cX11_isPossible 354 = .ok (.ifCond .ne 27, 3) := by decide +kernel
theorem dX11_isPossible_357 : decode cX11_isPossible 357 = .ok (.aload_n 0, 1) := by decide +kernel
theorem dX11_isPossible_358 : decode cX11_isPossible 358 = .ok (.getfield 123, 3) := by decide +kernel
theorem dX11_isPossible_361 : decode cX11_isPossible 361 = .ok (.aload_n 0, 1) := by decide +kernel
theorem dX11_isPossible_362 : decode cX11_isPossible 362 = .ok (.getfield 317, 3) := by decide +kernel
theorem dX11_isPossible_365 : decode cX11_isPossible 365 = .ok (.baload, 1) := by decide +kernel
theorem dX11_isPossible_366 : decode cX11_isPossible 366 = .ok (.ifCond .eq 19, 3) := by decide +kernel
theorem dX11_isPossible_369 : decode cX11_isPossible 369 = .ok (.aload_n 0, 1) := by decide +kernel
theorem dX11_isPossible_370 : decode cX11_isPossible 370 = .ok (.getfield 120, 3) := by decide +kernel
theorem dX11_isPossible_373 : decode cX11_isPossible 373 = .ok (.aload_n 0, 1) := by decide +kernel
theorem dX11_isPossible_374 : decode cX11_isPossible 374 = .ok (.getfield 320, 3) := by decide +kernel
theorem dX11_isPossible_377 : decode cX11_isPossible 377 = .ok (.baload, 1) := by decide +kernel
theorem dX11_isPossible_378 : decode cX11_isPossible 378 = .ok (.ifCond .eq 7, 3) := by decide +kernel
theorem dX11_isPossible_381 : decode cX11_isPossible 381 = .ok (.iconst 1, 1) := by decide +kernel
theorem dX11_isPossible_382 : decode cX11_isPossible 382 = .ok (.goto 4, 3) := by decide +kernel
theorem dX11_isPossible_385 : decode cX11_isPossible 385 = .ok (.iconst 0, 1) := by decide +kernel
theorem dX11_isPossible_386 : decode cX11_isPossible 386 = .ok (.ireturn, 1) := by decide +kernel
theorem dX11_isSome_0 : decode cX11_isSome 0 = .ok (.aload_n 0, 1) := by decide +kernel
theorem dX11_isSome_1 : decode cX11_isSome 1 = .ok (.invokevirtual 323, 3) := by decide +kernel
theorem dX11_isSome_4 : decode cX11_isSome 4 = .ok (.aload_n 0, 1) := by decide +kernel
theorem dX11_isSome_5 : decode cX11_isSome 5 = .ok (.invokevirtual 326, 3) := by decide +kernel
theorem dX11_isSome_8 : decode cX11_isSome 8 = .ok (.ifCond .ne 5, 3) := by decide +kernel
theorem dX11_isSome_11 : decode cX11_isSome 11 = .ok (.iconst 0, 1) := by decide +kernel
theorem dX11_isSome_12 : decode cX11_isSome 12 = .ok (.ireturn, 1) := by decide +kernel
theorem dX11_isSome_13 : decode cX11_isSome 13 = .ok (.iconst 0, 1) := by decide +kernel
theorem dX11_isSome_14 : decode cX11_isSome 14 = .ok (.istore_n 1, 1) := by decide +kernel
theorem dX11_isSome_15 : decode cX11_isSome 15 = .ok (.aload_n 0, 1) := by decide +kernel
theorem dX11_isSome_16 : decode cX11_isSome 16 = .ok (.getfield 303, 3) := by decide +kernel
theorem dX11_isSome_19 : decode cX11_isSome 19 = .ok (.ifCond .le 10, 3) := by decide +kernel
theorem dX11_isSome_22 : decode cX11_isSome 22 = .ok (.aload_n 0, 1) := by decide +kernel
theorem dX11_isSome_23 : decode cX11_isSome 23 = .ok (.getfield 114, 3) := by decide +kernel
theorem dX11_isSome_26 : decode cX11_isSome 26 = .ok (.iconst 0, 1) := by decide +kernel
theorem dX11_isSome_27 : decode cX11_isSome 27 = .ok (.iconst 0, 1) := by decide +kernel
theorem dX11_isSome_28 : decode cX11_isSome 28 = .ok (.iastore, 1) := by decide +kernel
theorem dX11_isSome_29 : decode cX11_isSome 29 = .ok (.iload_n 1, 1) := by decide +kernel
theorem dX11_isSome_30 : decode cX11_isSome 30 = .ok (.ifCond .lt 95, 3) := by decide +kernel
theorem dX11_isSome_33 : decode cX11_isSome 33 = .ok (.iload_n 1, 1) := by decide +kernel
theorem dX11_isSome_34 : decode cX11_isSome 34 = .ok (.aload_n 0, 1) := by decide +kernel
theorem dX11_isSome_35 : decode cX11_isSome 35 = .ok (.getfield 303, 3) := by decide +kernel
theorem dX11_isSome_38 : decode cX11_isSome 38 = .ok (.if_icmp .ge 87, 3) := by decide +kernel
theorem dX11_isSome_41 : decode cX11_isSome 41 = .ok (.aload_n 0, 1) := by decide +kernel
theorem dX11_isSome_42 : decode cX11_isSome 42 = .ok (.getfield 111, 3) := by decide +kernel
theorem dX11_isSome_45 : decode cX11_isSome 45 = .ok (.iload_n 1, 1) := by decide +kernel
theorem dX11_isSome_46 : decode cX11_isSome 46 = .ok (.iaload, 1) := by decide +kernel
theorem dX11_isSome_47 : decode cX11_isSome 47 = .ok (.istore_n 2, 1) := by decide +kernel
theorem dX11_isSome_48 : decode cX11_isSome 48 = .ok (.aload_n 0, 1) := by decide +kernel
theorem dX11_isSome_49 : decode cX11_isSome 49 = .ok (.getfield 114, 3) := by decide +kernel
theorem dX11_isSome_52 : decode cX11_isSome 52 = .ok (.iload_n 1, 1) := by decide +kernel
theorem dX11_isSome_53 : decode cX11_isSome 53 = .ok (.iaload, 1) := by decide +kernel
theorem dX11_isSome_54 : decode cX11_isSome 54 = .ok (.aload_n 0, 1) := by decide +kernel
theorem dX11_isSome_55 : decode cX11_isSome 55 = .ok (.iload_n 2, 1) := by decide +kernel
theorem dX11_isSome_56 : decode cX11_isSome 56 = .ok (.invokevirtual 330, 3) := by decide +kernel
theorem dX11_isSome_59 : decode cX11_isSome 59 = .ok (.if_icmp .ne 16, 3) := by decide +kernel
theorem dX11_isSome_62 : decode cX11_isSome 62 = .ok (.aload_n 0, 1) := by decide +kernel
theorem dX11_isSome_63 : decode cX11_isSome 63 = .ok (.getfield 105, 3) := by decide +kernel
theorem dX11_isSome_66 : decode cX11_isSome 66 = .ok (.iload_n 2, 1) := by decide +kernel
theorem dX11_isSome_67 : decode cX11_isSome 67 = .ok (.iconst (-1), 1) := by decide +kernel
theorem dX11_isSome_68 : decode cX11_isSome 68 = .ok (.iastore, 1) := by decide +kernel
theorem dX11_isSome_69 : decode cX11_isSome 69 = .ok (.iinc 1 (-1), 3) := by decide +kernel
theorem dX11_isSome_72 : decode cX11_isSome 72 = .ok (.goto 50, 3) := by decide +kernel
theorem dX11_isSome_75 : decode cX11_isSome 75 = .ok (.aload_n 0, 1) := by decide +kernel
theorem dX11_isSome_76 : decode cX11_isSome 76 = .ok (.getfield 105, 3) := by decide +kernel
theorem dX11_isSome_79 : decode cX11_isSome 79 = .ok (.iload_n 2, 1) := by decide +kernel
theorem dX11_isSome_80 : decode cX11_isSome 80 = .ok (.aload_n 0, 1) := by decide +kernel
theorem dX11_isSome_81 : decode cX11_isSome 81 = .ok (.getfield 114, 3) := by decide +kernel
theorem dX11_isSome_84 : decode cX11_isSome 84 = .ok (.iload_n 1, 1) := by decide +kernel
theorem dX11_isSome_85 : decode cX11_isSome 85 = .ok (.iaload, 1) := by decide +kernel
theorem dX11_isSome_86 : decode cX11_isSome 86 = .ok (.iastore, 1) := by decide +kernel
theorem dX11_isSome_87 : decode cX11_isSome 87 = .ok (.aload_n 0, 1) := by decide +kernel
theorem dX11_isSome_88 : decode cX11_isSome 88 = .ok (.getfield 114, 3) := by decide +kernel
theorem dX11_isSome_91 : decode cX11_isSome 91 = .ok (.iload_n 1, 1) := by decide +kernel
theorem dX11_isSome_92 : decode cX11_isSome 92 = .ok (.dup2, 1) := by decide +kernel
theorem dX11_isSome_93 : decode cX11_isSome 93 = .ok (.iaload, 1) := by decide +kernel
theorem dX11_isSome_94 : decode cX11_isSome 94 = .ok (.iconst 1, 1) := by decide +kernel
theorem dX11_isSome_95 : decode cX11_isSome 95 = .ok (.iadd, 1) := by decide +kernel
theorem dX11_isSome_96 : decode cX11_isSome 96 = .ok (.iastore, 1) := by decide +kernel
theorem dX11_isSome_97 : decode cX11_isSome 97 = .ok (.aload_n 0, 1) := by decide +kernel
theorem dX11_isSome_98 : decode cX11_isSome 98 = .ok (.invokevirtual 326, 3) := by decide +kernel
theorem dX11_isSome_101 : decode cX11_isSome 101 = .ok (.ifCond .eq 21, 3) := by decide +kernel
theorem dX11_isSome_104 : decode cX11_isSome 104 = .ok (.iinc 1 1, 3) := by decide +kernel
theorem dX11_isSome_107 : decode cX11_isSome 107 = .ok (.iload_n 1, 1) := by decide +kernel
theorem dX11_isSome_108 : decode cX11_isSome 108 = .ok (.aload_n 0, 1) := by decide +kernel
theorem dX11_isSome_109 : decode cX11_isSome 109 = .ok (.getfield 303, 3) := by decide +kernel
theorem dX11_isSome_112 : decode cX11_isSome 112 = .ok (.if_icmp .ge 10, 3) := by decide +kernel
theorem dX11_isSome_115 : decode cX11_isSome 115 = .ok (.aload_n 0, 1) := by decide +kernel
theorem dX11_isSome_116 : decode cX11_isSome 116 = .ok (.getfield 114, 3) := by decide +kernel
theorem dX11_isSome_119 : decode cX11_isSome 119 = .ok (.iload_n 1, 1) := by decide +kernel
theorem dX11_isSome_120 : decode cX11_isSome 120 = .ok (.iconst 0, 1) := by decide +kernel
theorem dX11_isSome_121 : decode cX11_isSome 121 = .ok (.iastore, 1) := by decide +kernel
theorem dX11_isSome_122 : decode cX11_isSome 122 = .ok (.goto (-93), 3) := by decide +kernel
theorem dX11_isSome_125 : decode cX11_isSome 125 = .ok (.iload_n 1, 1) := by decide +kernel
theorem dX11_isSome_126 : decode cX11_isSome 126 = .ok (.ifCond .lt 7, 3) := by decide +kernel
theorem dX11_isSome_129 : decode cX11_isSome 129 = .ok (.iconst 1, 1) := by decide +kernel
theorem dX11_isSome_130 : decode cX11_isSome 130 = .ok (.goto 4, 3) := by decide +kernel
theorem dX11_isSome_133 : decode cX11_isSome 133 = .ok (.iconst 0, 1) := by decide +kernel
theorem dX11_isSome_134 : decode cX11_isSome 134 = .ok (.ireturn, 1) := by decide +kernel
theorem dX11_wantsNothing_0 : decode cX11_wantsNothing 0 = .ok (.iconst 0, 1) := by decide +kernel
theorem dX11_wantsNothing_1 : decode cX11_wantsNothing 1 = .ok (.istore_n 1, 1) := by decide +kernel
theorem dX11_wantsNothing_2 : decode cX11_wantsNothing 2 = .ok (.iload_n 1, 1) := by decide +kernel
theorem dX11_wantsNothing_3 : decode cX11_wantsNothing 3 = .ok (.bipush 60, 2) := by decide +kernel
theorem dX11_wantsNothing_5 : decode cX11_wantsNothing 5 = .ok (.if_icmp .ge 23, 3) := by decide +kernel
theorem dX11_wantsNothing_8 : decode cX11_wantsNothing 8 = .ok (.aload_n 0, 1) := by decide +kernel
theorem dX11_wantsNothing_9 : decode cX11_wantsNothing 9 = .ok (.getfield 117, 3) := by decide +kernel
theorem dX11_wantsNothing_12 : decode cX11_wantsNothing 12 = .ok (.iload_n 1, 1) := by decide +kernel
theorem dX11_wantsNothing_13 : decode cX11_wantsNothing 13 = .ok (.iconst 0, 1) := by decide +kernel
theorem dX11_wantsNothing_14 : decode cX11_wantsNothing 14 = .ok (.bastore, 1) := by decide +kernel
theorem dX11_wantsNothing_15 : decode cX11_wantsNothing 15 = .ok (.aload_n 0, 1) := by decide +kernel
theorem dX11_wantsNothing_16 : decode cX11_wantsNothing 16 = .ok (.getfield 129, 3) := by decide +kernel
theorem dX11_wantsNothing_19 : decode cX11_wantsNothing 19 = .ok (.iload_n 1, 1) := by decide +kernel
theorem dX11_wantsNothing_20 : decode cX11_wantsNothing 20 = .ok (.iconst 0, 1) := by decide +kernel
theorem dX11_wantsNothing_21 : decode cX11_wantsNothing 21 = .ok (.iastore, 1) := by decide +kernel
theorem dX11_wantsNothing_22 : decode cX11_wantsNothing 22 = .ok (.iinc 1 1, 3) := by decide +kernel
theorem dX11_wantsNothing_25 : decode cX11_wantsNothing 25 = .ok (.goto (-23), 3) := by decide +kernel
theorem dX11_wantsNothing_28 : decode cX11_wantsNothing 28 = .ok (.aload_n 0, 1) := by decide +kernel
theorem dX11_wantsNothing_29 : decode cX11_wantsNothing 29 = .ok (.iconst (-1), 1) := by decide +kernel
theorem dX11_wantsNothing_30 : decode cX11_wantsNothing 30 = .ok (.putfield 317, 3) := by decide +kernel
theorem dX11_wantsNothing_33 : decode cX11_wantsNothing 33 = .ok (.aload_n 0, 1) := by decide +kernel
theorem dX11_wantsNothing_34 : decode cX11_wantsNothing 34 = .ok (.iconst (-1), 1) := by decide +kernel
theorem dX11_wantsNothing_35 : decode cX11_wantsNothing 35 = .ok (.putfield 320, 3) := by decide +kernel
theorem dX11_wantsNothing_38 : decode cX11_wantsNothing 38 = .ok (.return_, 1) := by decide +kernel
theorem dX11_wants_0 : decode cX11_wants 0 = .ok (.aload_n 0, 1) := by decide +kernel
theorem dX11_wants_1 : decode cX11_wants 1 = .ok (.getfield 117, 3) := by decide +kernel
theorem dX11_wants_4 : decode cX11_wants 4 = .ok (.iload_n 1, 1) := by decide +kernel
theorem dX11_wants_5 : decode cX11_wants 5 = .ok (.iconst 1, 1) := by decide +kernel
theorem dX11_wants_6 : decode cX11_wants 6 = .ok (.bastore, 1) := by decide +kernel
theorem dX11_wants_7 : decode cX11_wants 7 = .ok (.aload_n 0, 1) := by decide +kernel
theorem dX11_wants_8 : decode cX11_wants 8 = .ok (.getfield 129, 3) := by decide +kernel
theorem dX11_wants_11 : decode cX11_wants 11 = .ok (.iload_n 1, 1) := by decide +kernel
theorem dX11_wants_12 : decode cX11_wants 12 = .ok (.dup2, 1) := by decide +kernel
theorem dX11_wants_13 : decode cX11_wants 13 = .ok (.iaload, 1) := by decide +kernel
theorem dX11_wants_14 : decode cX11_wants 14 = .ok (.iload_n 2, 1) := by decide +kernel
theorem dX11_wants_15 : decode cX11_wants 15 = .ok (.ior, 1) := by decide +kernel
theorem dX11_wants_16 : decode cX11_wants 16 = .ok (.iastore, 1) := by decide +kernel
theorem dX11_wants_17 : decode cX11_wants 17 = .ok (.return_, 1) := by decide +kernel
theorem dX11_ends_0 : decode cX11_ends 0 = .ok (.iconst 0, 1) := by decide +kernel
theorem dX11_ends_1 : decode cX11_ends 1 = .ok (.istore_n 2, 1) := by decide +kernel
theorem dX11_ends_2 : decode cX11_ends 2 = .ok (.iload_n 2, 1) := by decide +kernel
theorem dX11_ends_3 : decode cX11_ends 3 = .ok (.aload_n 0, 1) := by decide +kernel
theorem dX11_ends_4 : decode cX11_ends 4 = .ok (.getfield 78, 3) := by decide +kernel
theorem dX11_ends_7 : decode cX11_ends 7 = .ok (.iload_n 1, 1) := by decide +kernel
theorem dX11_ends_8 : decode cX11_ends 8 = .ok (.iaload, 1) := by decide +kernel
theorem dX11_ends_9 : decode cX11_ends 9 = .ok (.if_icmp .ge 41, 3) := by decide +kernel
theorem dX11_ends_12 : decode cX11_ends 12 = .ok (.aload_n 0, 1) := by decide +kernel
theorem dX11_ends_13 : decode cX11_ends 13 = .ok (.getfield 81, 3) := by decide +kernel
theorem dX11_ends_16 : decode cX11_ends 16 = .ok (.iconst 5, 1) := by decide +kernel
theorem dX11_ends_17 : decode cX11_ends 17 = .ok (.iload_n 1, 1) := by decide +kernel
theorem dX11_ends_18 : decode cX11_ends 18 = .ok (.imul, 1) := by decide +kernel
theorem dX11_ends_19 : decode cX11_ends 19 = .ok (.iload_n 2, 1) := by decide +kernel
theorem dX11_ends_20 : decode cX11_ends 20 = .ok (.iadd, 1) := by decide +kernel
theorem dX11_ends_21 : decode cX11_ends 21 = .ok (.caload, 1) := by decide +kernel
theorem dX11_ends_22 : decode cX11_ends 22 = .ok (.bipush 115, 2) := by decide +kernel
theorem dX11_ends_24 : decode cX11_ends 24 = .ok (.if_icmp .eq 18, 3) := by decide +kernel
theorem dX11_ends_27 : decode cX11_ends 27 = .ok (.aload_n 0, 1) := by decide +kernel
theorem dX11_ends_28 : decode cX11_ends 28 = .ok (.getfield 81, 3) := by decide +kernel
theorem dX11_ends_31 : decode cX11_ends 31 = .ok (.iconst 5, 1) := by decide +kernel
theorem dX11_ends_32 : decode cX11_ends 32 = .ok (.iload_n 1, 1) := by decide +kernel
theorem dX11_ends_33 : decode cX11_ends 33 = .ok (.imul, 1) := by decide +kernel
theorem dX11_ends_34 : decode cX11_ends 34 = .ok (.iload_n 2, 1) := by decide +kernel
theorem dX11_ends_35 : decode cX11_ends 35 = .ok (.iadd, 1) := by decide +kernel
theorem dX11_ends_36 : decode cX11_ends 36 = .ok (.caload, 1) := by decide +kernel
theorem dX11_ends_37 : decode cX11_ends 37 = .ok (.bipush 83, 2) := by decide +kernel
theorem dX11_ends_39 : decode cX11_ends 39 = .ok (.if_icmp .ne 5, 3) := by decide +kernel
theorem dX11_ends_42 : decode cX11_ends 42 = .ok (.iconst 1, 1) := by decide +kernel
theorem dX11_ends_43 : decode cX11_ends 43 = .ok (.ireturn, 1) := by decide +kernel
theorem dX11_ends_44 : decode cX11_ends 44 = .ok (.iinc 2 1, 3) := by decide +kernel
theorem dX11_ends_47 : decode cX11_ends 47 = .ok (.goto (-45), 3) := by decide +kernel
theorem dX11_ends_50 : decode cX11_ends 50 = .ok (.iconst 0, 1) := by decide +kernel
theorem dX11_ends_51 : decode cX11_ends 51 = .ok (.ireturn, 1) := by decide +kernel
theorem dX11_isShadowed_0 : decode cX11_isShadowed 0 = .ok (.aload_n 0, 1) := by decide +kernel
theorem dX11_isShadowed_1 : decode cX11_isShadowed 1 = .ok (.aload_n 0, 1) := by decide +kernel
theorem dX11_isShadowed_2 : decode cX11_isShadowed 2 = .ok (.iload_n 1, 1) := by decide +kernel
theorem dX11_isShadowed_3 : decode cX11_isShadowed 3 = .ok (.iload_n 2, 1) := by decide +kernel
theorem dX11_isShadowed_4 : decode cX11_isShadowed 4 = .ok (.invokevirtual 197, 3) := by decide +kernel
theorem dX11_isShadowed_7 : decode cX11_isShadowed 7 = .ok (.ifCond .eq 7, 3) := by decide +kernel
theorem dX11_isShadowed_10 : decode cX11_isShadowed 10 = .ok (.iconst 0, 1) := by decide +kernel
theorem dX11_isShadowed_11 : decode cX11_isShadowed 11 = .ok (.goto 4, 3) := by decide +kernel
theorem dX11_isShadowed_14 : decode cX11_isShadowed 14 = .ok (.iconst 1, 1) := by decide +kernel
theorem dX11_isShadowed_15 : decode cX11_isShadowed 15 = .ok (.putfield 138, 3) := by decide +kernel
theorem dX11_isShadowed_18 : decode cX11_isShadowed 18 = .ok (.aload_n 0, 1) := by decide +kernel
theorem dX11_isShadowed_19 : decode cX11_isShadowed 19 = .ok (.getfield 138, 3) := by decide +kernel
theorem dX11_isShadowed_22 : decode cX11_isShadowed 22 = .ok (.ifCond .le 5, 3) := by decide +kernel
theorem dX11_isShadowed_25 : decode cX11_isShadowed 25 = .ok (.iconst 0, 1) := by decide +kernel
theorem dX11_isShadowed_26 : decode cX11_isShadowed 26 = .ok (.ireturn, 1) := by decide +kernel
theorem dX11_isShadowed_27 : decode cX11_isShadowed 27 = .ok (.aload_n 0, 1) := by decide +kernel
theorem dX11_isShadowed_28 : decode cX11_isShadowed 28 = .ok (.invokevirtual 333, 3) := by decide +kernel
theorem dX11_isShadowed_31 : decode cX11_isShadowed 31 = .ok (.iconst 0, 1) := by decide +kernel
theorem dX11_isShadowed_32 : decode cX11_isShadowed 32 = .ok (.istore_n 3, 1) := by decide +kernel
theorem dX11_isShadowed_33 : decode cX11_isShadowed 33 = .ok (.iload_n 3, 1) := by decide +kernel
theorem dX11_isShadowed_34 : decode cX11_isShadowed 34 = .ok (.iload_n 2, 1) := by decide +kernel
theorem dX11_isShadowed_35 : decode cX11_isShadowed 35 = .ok (.if_icmp .ge 38, 3) := by decide +kernel
theorem dX11_isShadowed_38 : decode cX11_isShadowed 38 = .ok (.aload_n 0, 1) := by decide +kernel
theorem dX11_isShadowed_39 : decode cX11_isShadowed 39 = .ok (.bipush 12, 2) := by decide +kernel
theorem dX11_isShadowed_41 : decode cX11_isShadowed 41 = .ok (.iload_n 1, 1) := by decide +kernel
theorem dX11_isShadowed_42 : decode cX11_isShadowed 42 = .ok (.imul, 1) := by decide +kernel
theorem dX11_isShadowed_43 : decode cX11_isShadowed 43 = .ok (.iload_n 3, 1) := by decide +kernel
theorem dX11_isShadowed_44 : decode cX11_isShadowed 44 = .ok (.iadd, 1) := by decide +kernel
theorem dX11_isShadowed_45 : decode cX11_isShadowed 45 = .ok (.invokevirtual 336, 3) := by decide +kernel
theorem dX11_isShadowed_48 : decode cX11_isShadowed 48 = .ok (.ifCond .eq 19, 3) := by decide +kernel
theorem dX11_isShadowed_51 : decode cX11_isShadowed 51 = .ok (.aload_n 0, 1) := by decide +kernel
theorem dX11_isShadowed_52 : decode cX11_isShadowed 52 = .ok (.aload_n 0, 1) := by decide +kernel
theorem dX11_isShadowed_53 : decode cX11_isShadowed 53 = .ok (.getfield 75, 3) := by decide +kernel
theorem dX11_isShadowed_56 : decode cX11_isShadowed 56 = .ok (.bipush 12, 2) := by decide +kernel
theorem dX11_isShadowed_58 : decode cX11_isShadowed 58 = .ok (.iload_n 1, 1) := by decide +kernel
theorem dX11_isShadowed_59 : decode cX11_isShadowed 59 = .ok (.imul, 1) := by decide +kernel
theorem dX11_isShadowed_60 : decode cX11_isShadowed 60 = .ok (.iload_n 3, 1) := by decide +kernel
theorem dX11_isShadowed_61 : decode cX11_isShadowed 61 = .ok (.iadd, 1) := by decide +kernel
theorem dX11_isShadowed_62 : decode cX11_isShadowed 62 = .ok (.iaload, 1) := by decide +kernel
theorem dX11_isShadowed_63 : decode cX11_isShadowed 63 = .ok (.iconst 2, 1) := by decide +kernel
theorem dX11_isShadowed_64 : decode cX11_isShadowed 64 = .ok (.invokevirtual 339, 3) := by decide +kernel
theorem dX11_isShadowed_67 : decode cX11_isShadowed 67 = .ok (.iinc 3 1, 3) := by decide +kernel
theorem dX11_isShadowed_70 : decode cX11_isShadowed 70 = .ok (.goto (-37), 3) := by decide +kernel
theorem dX11_isShadowed_73 : decode cX11_isShadowed 73 = .ok (.aload_n 0, 1) := by decide +kernel
theorem dX11_isShadowed_74 : decode cX11_isShadowed 74 = .ok (.aload_n 0, 1) := by decide +kernel
theorem dX11_isShadowed_75 : decode cX11_isShadowed 75 = .ok (.getfield 75, 3) := by decide +kernel
theorem dX11_isShadowed_78 : decode cX11_isShadowed 78 = .ok (.bipush 12, 2) := by decide +kernel
theorem dX11_isShadowed_80 : decode cX11_isShadowed 80 = .ok (.iload_n 1, 1) := by decide +kernel
theorem dX11_isShadowed_81 : decode cX11_isShadowed 81 = .ok (.imul, 1) := by decide +kernel
theorem dX11_isShadowed_82 : decode cX11_isShadowed 82 = .ok (.iload_n 2, 1) := by decide +kernel
theorem dX11_isShadowed_83 : decode cX11_isShadowed 83 = .ok (.iadd, 1) := by decide +kernel
theorem dX11_isShadowed_84 : decode cX11_isShadowed 84 = .ok (.iaload, 1) := by decide +kernel
theorem dX11_isShadowed_85 : decode cX11_isShadowed 85 = .ok (.iconst 1, 1) := by decide +kernel
theorem dX11_isShadowed_86 : decode cX11_isShadowed 86 = .ok (.invokevirtual 339, 3) := by decide +kernel
theorem dX11_isShadowed_89 : decode cX11_isShadowed 89 = .ok (.aload_n 0, 1) := by decide +kernel
theorem dX11_isShadowed_90 : decode cX11_isShadowed 90 = .ok (.invokevirtual 342, 3) := by decide +kernel
theorem dX11_isShadowed_93 : decode cX11_isShadowed 93 = .ok (.ifCond .ne 7, 3) := by decide +kernel
theorem dX11_isShadowed_96 : decode cX11_isShadowed 96 = .ok (.iconst 1, 1) := by decide +kernel
theorem dX11_isShadowed_97 : decode cX11_isShadowed 97 = .ok (.goto 4, 3) := by decide +kernel
theorem dX11_isShadowed_100 : decode cX11_isShadowed 100 = .ok (.iconst 0, 1) := by decide +kernel
theorem dX11_isShadowed_101 : decode cX11_isShadowed 101 = .ok (.ireturn, 1) := by decide +kernel
theorem dX11_areSame_0 : decode cX11_areSame 0 = .ok (.aload_n 0, 1) := by decide +kernel
theorem dX11_areSame_1 : decode cX11_areSame 1 = .ok (.aload_n 0, 1) := by decide +kernel
theorem dX11_areSame_2 : decode cX11_areSame 2 = .ok (.iload_n 1, 1) := by decide +kernel
theorem dX11_areSame_3 : decode cX11_areSame 3 = .ok (.invokevirtual 180, 3) := by decide +kernel
theorem dX11_areSame_6 : decode cX11_areSame 6 = .ok (.ifCond .eq 15, 3) := by decide +kernel
theorem dX11_areSame_9 : decode cX11_areSame 9 = .ok (.aload_n 0, 1) := by decide +kernel
theorem dX11_areSame_10 : decode cX11_areSame 10 = .ok (.iload_n 2, 1) := by decide +kernel
theorem dX11_areSame_11 : decode cX11_areSame 11 = .ok (.invokevirtual 180, 3) := by decide +kernel
theorem dX11_areSame_14 : decode cX11_areSame 14 = .ok (.ifCond .eq 7, 3) := by decide +kernel
theorem dX11_areSame_17 : decode cX11_areSame 17 = .ok (.iconst 0, 1) := by decide +kernel
theorem dX11_areSame_18 : decode cX11_areSame 18 = .ok (.goto 4, 3) := by decide +kernel
theorem dX11_areSame_21 : decode cX11_areSame 21 = .ok (.iconst 1, 1) := by decide +kernel
theorem dX11_areSame_22 : decode cX11_areSame 22 = .ok (.putfield 138, 3) := by decide +kernel
theorem dX11_areSame_25 : decode cX11_areSame 25 = .ok (.aload_n 0, 1) := by decide +kernel
theorem dX11_areSame_26 : decode cX11_areSame 26 = .ok (.getfield 138, 3) := by decide +kernel
theorem dX11_areSame_29 : decode cX11_areSame 29 = .ok (.ifCond .le 5, 3) := by decide +kernel
theorem dX11_areSame_32 : decode cX11_areSame 32 = .ok (.iconst 0, 1) := by decide +kernel
theorem dX11_areSame_33 : decode cX11_areSame 33 = .ok (.ireturn, 1) := by decide +kernel
theorem dX11_areSame_34 : decode cX11_areSame 34 = .ok (.aload_n 0, 1) := by decide +kernel
theorem dX11_areSame_35 : decode cX11_areSame 35 = .ok (.invokevirtual 333, 3) := by decide +kernel
theorem dX11_areSame_38 : decode cX11_areSame 38 = .ok (.aload_n 0, 1) := by decide +kernel
theorem dX11_areSame_39 : decode cX11_areSame 39 = .ok (.getfield 117, 3) := by decide +kernel
theorem dX11_areSame_42 : decode cX11_areSame 42 = .ok (.iload_n 1, 1) := by decide +kernel
theorem dX11_areSame_43 : decode cX11_areSame 43 = .ok (.iconst 1, 1) := by decide +kernel
theorem dX11_areSame_44 : decode cX11_areSame 44 = .ok (.bastore, 1) := by decide +kernel
theorem dX11_areSame_45 : decode cX11_areSame 45 = .ok (.aload_n 0, 1) := by decide +kernel
theorem dX11_areSame_46 : decode cX11_areSame 46 = .ok (.getfield 117, 3) := by decide +kernel
theorem dX11_areSame_49 : decode cX11_areSame 49 = .ok (.iload_n 2, 1) := by decide +kernel
theorem dX11_areSame_50 : decode cX11_areSame 50 = .ok (.iconst 1, 1) := by decide +kernel
theorem dX11_areSame_51 : decode cX11_areSame 51 = .ok (.bastore, 1) := by decide +kernel
theorem dX11_areSame_52 : decode cX11_areSame 52 = .ok (.aload_n 0, 1) := by decide +kernel
theorem dX11_areSame_53 : decode cX11_areSame 53 = .ok (.iload_n 1, 1) := by decide +kernel
theorem dX11_areSame_54 : decode cX11_areSame 54 = .ok (.putfield 317, 3) := by decide +kernel
theorem dX11_areSame_57 : decode cX11_areSame 57 = .ok (.aload_n 0, 1) := by decide +kernel
theorem dX11_areSame_58 : decode cX11_areSame 58 = .ok (.iload_n 2, 1) := by decide +kernel
theorem dX11_areSame_59 : decode cX11_areSame 59 = .ok (.putfield 320, 3) := by decide +kernel
theorem dX11_areSame_62 : decode cX11_areSame 62 = .ok (.aload_n 0, 1) := by decide +kernel
theorem dX11_areSame_63 : decode cX11_areSame 63 = .ok (.invokevirtual 342, 3) := by decide +kernel
theorem dX11_areSame_66 : decode cX11_areSame 66 = .ok (.ifCond .ne 7, 3) := by decide +kernel
theorem dX11_areSame_69 : decode cX11_areSame 69 = .ok (.iconst 1, 1) := by decide +kernel
theorem dX11_areSame_70 : decode cX11_areSame 70 = .ok (.goto 4, 3) := by decide +kernel
theorem dX11_areSame_73 : decode cX11_areSame 73 = .ok (.iconst 0, 1) := by decide +kernel
theorem dX11_areSame_74 : decode cX11_areSame 74 = .ok (.ireturn, 1) := by decide +kernel
theorem dX11_offers_0 : decode cX11_offers 0 = .ok (.aload_n 0, 1) := by decide +kernel
theorem dX11_offers_1 : decode cX11_offers 1 = .ok (.getfield 132, 3) := by decide +kernel
theorem dX11_offers_4 : decode cX11_offers 4 = .ok (.aload_n 0, 1) := by decide +kernel
theorem dX11_offers_5 : decode cX11_offers 5 = .ok (.getfield 345, 3) := by decide +kernel
theorem dX11_offers_8 : decode cX11_offers 8 = .ok (.iload_n 1, 1) := by decide +kernel
theorem dX11_offers_9 : decode cX11_offers 9 = .ok (.castore, 1) := by decide +kernel
theorem dX11_offers_10 : decode cX11_offers 10 = .ok (.aload_n 0, 1) := by decide +kernel
theorem dX11_offers_11 : decode cX11_offers 11 = .ok (.getfield 135, 3) := by decide +kernel
theorem dX11_offers_14 : decode cX11_offers 14 = .ok (.aload_n 0, 1) := by decide +kernel
theorem dX11_offers_15 : decode cX11_offers 15 = .ok (.getfield 345, 3) := by decide +kernel
theorem dX11_offers_18 : decode cX11_offers 18 = .ok (.iload_n 2, 1) := by decide +kernel
theorem dX11_offers_19 : decode cX11_offers 19 = .ok (.iastore, 1) := by decide +kernel
theorem dX11_offers_20 : decode cX11_offers 20 = .ok (.aload_n 0, 1) := by decide +kernel
theorem dX11_offers_21 : decode cX11_offers 21 = .ok (.dup, 1) := by decide +kernel
theorem dX11_offers_22 : decode cX11_offers 22 = .ok (.getfield 345, 3) := by decide +kernel
theorem dX11_offers_25 : decode cX11_offers 25 = .ok (.iconst 1, 1) := by decide +kernel
theorem dX11_offers_26 : decode cX11_offers 26 = .ok (.iadd, 1) := by decide +kernel
theorem dX11_offers_27 : decode cX11_offers 27 = .ok (.putfield 345, 3) := by decide +kernel
theorem dX11_offers_30 : decode cX11_offers 30 = .ok (.return_, 1) := by decide +kernel
theorem dX11_offersAll_0 : decode cX11_offersAll 0 = .ok (.aload_n 0, 1) := by decide +kernel
theorem dX11_offersAll_1 : decode cX11_offersAll 1 = .ok (.iconst 0, 1) := by decide +kernel
theorem dX11_offersAll_2 : decode cX11_offersAll 2 = .ok (.putfield 345, 3) := by decide +kernel
theorem dX11_offersAll_5 : decode cX11_offersAll 5 = .ok (.iconst 0, 1) := by decide +kernel
theorem dX11_offersAll_6 : decode cX11_offersAll 6 = .ok (.istore_n 1, 1) := by decide +kernel
theorem dX11_offersAll_7 : decode cX11_offersAll 7 = .ok (.iload_n 1, 1) := by decide +kernel
theorem dX11_offersAll_8 : decode cX11_offersAll 8 = .ok (.bipush 10, 2) := by decide +kernel
theorem dX11_offersAll_10 : decode cX11_offersAll 10 = .ok (.if_icmp .ge 16, 3) := by decide +kernel
theorem dX11_offersAll_13 : decode cX11_offersAll 13 = .ok (.aload_n 0, 1) := by decide +kernel
theorem dX11_offersAll_14 : decode cX11_offersAll 14 = .ok (.bipush 102, 2) := by decide +kernel
theorem dX11_offersAll_16 : decode cX11_offersAll 16 = .ok (.iload_n 1, 1) := by decide +kernel
theorem dX11_offersAll_17 : decode cX11_offersAll 17 = .ok (.invokevirtual 348, 3) := by decide +kernel
theorem dX11_offersAll_20 : decode cX11_offersAll 20 = .ok (.iinc 1 1, 3) := by decide +kernel
theorem dX11_offersAll_23 : decode cX11_offersAll 23 = .ok (.goto (-16), 3) := by decide +kernel
theorem dX11_offersAll_26 : decode cX11_offersAll 26 = .ok (.iconst 0, 1) := by decide +kernel
theorem dX11_offersAll_27 : decode cX11_offersAll 27 = .ok (.istore_n 1, 1) := by decide +kernel
theorem dX11_offersAll_28 : decode cX11_offersAll 28 = .ok (.iload_n 1, 1) := by decide +kernel
theorem dX11_offersAll_29 : decode cX11_offersAll 29 = .ok (.bipush 10, 2) := by decide +kernel
theorem dX11_offersAll_31 : decode cX11_offersAll 31 = .ok (.if_icmp .ge 16, 3) := by decide +kernel
theorem dX11_offersAll_34 : decode cX11_offersAll 34 = .ok (.aload_n 0, 1) := by decide +kernel
theorem dX11_offersAll_35 : decode cX11_offersAll 35 = .ok (.bipush 116, 2) := by decide +kernel
theorem dX11_offersAll_37 : decode cX11_offersAll 37 = .ok (.iload_n 1, 1) := by decide +kernel
theorem dX11_offersAll_38 : decode cX11_offersAll 38 = .ok (.invokevirtual 348, 3) := by decide +kernel
theorem dX11_offersAll_41 : decode cX11_offersAll 41 = .ok (.iinc 1 1, 3) := by decide +kernel
theorem dX11_offersAll_44 : decode cX11_offersAll 44 = .ok (.goto (-16), 3) := by decide +kernel
theorem dX11_offersAll_47 : decode cX11_offersAll 47 = .ok (.iconst 0, 1) := by decide +kernel
theorem dX11_offersAll_48 : decode cX11_offersAll 48 = .ok (.istore_n 1, 1) := by decide +kernel
theorem dX11_offersAll_49 : decode cX11_offersAll 49 = .ok (.iload_n 1, 1) := by decide +kernel
theorem dX11_offersAll_50 : decode cX11_offersAll 50 = .ok (.bipush 16, 2) := by decide +kernel
theorem dX11_offersAll_52 : decode cX11_offersAll 52 = .ok (.if_icmp .ge 16, 3) := by decide +kernel
theorem dX11_offersAll_55 : decode cX11_offersAll 55 = .ok (.aload_n 0, 1) := by decide +kernel
theorem dX11_offersAll_56 : decode cX11_offersAll 56 = .ok (.bipush 115, 2) := by decide +kernel
theorem dX11_offersAll_58 : decode cX11_offersAll 58 = .ok (.iload_n 1, 1) := by decide +kernel
theorem dX11_offersAll_59 : decode cX11_offersAll 59 = .ok (.invokevirtual 348, 3) := by decide +kernel
theorem dX11_offersAll_62 : decode cX11_offersAll 62 = .ok (.iinc 1 1, 3) := by decide +kernel
theorem dX11_offersAll_65 : decode cX11_offersAll 65 = .ok (.goto (-16), 3) := by decide +kernel
theorem dX11_offersAll_68 : decode cX11_offersAll 68 = .ok (.iconst 0, 1) := by decide +kernel
theorem dX11_offersAll_69 : decode cX11_offersAll 69 = .ok (.istore_n 1, 1) := by decide +kernel
theorem dX11_offersAll_70 : decode cX11_offersAll 70 = .ok (.iload_n 1, 1) := by decide +kernel
theorem dX11_offersAll_71 : decode cX11_offersAll 71 = .ok (.bipush 16, 2) := by decide +kernel
theorem dX11_offersAll_73 : decode cX11_offersAll 73 = .ok (.if_icmp .ge 16, 3) := by decide +kernel
theorem dX11_offersAll_76 : decode cX11_offersAll 76 = .ok (.aload_n 0, 1) := by decide +kernel
theorem dX11_offersAll_77 : decode cX11_offersAll 77 = .ok (.bipush 98, 2) := by decide +kernel
theorem dX11_offersAll_79 : decode cX11_offersAll 79 = .ok (.iload_n 1, 1) := by decide +kernel
theorem dX11_offersAll_80 : decode cX11_offersAll 80 = .ok (.invokevirtual 348, 3) := by decide +kernel
theorem dX11_offersAll_83 : decode cX11_offersAll 83 = .ok (.iinc 1 1, 3) := by decide +kernel
theorem dX11_offersAll_86 : decode cX11_offersAll 86 = .ok (.goto (-16), 3) := by decide +kernel
theorem dX11_offersAll_89 : decode cX11_offersAll 89 = .ok (.iconst 0, 1) := by decide +kernel
theorem dX11_offersAll_90 : decode cX11_offersAll 90 = .ok (.istore_n 1, 1) := by decide +kernel
theorem dX11_offersAll_91 : decode cX11_offersAll 91 = .ok (.iload_n 1, 1) := by decide +kernel
theorem dX11_offersAll_92 : decode cX11_offersAll 92 = .ok (.sipush 999, 3) := by decide +kernel
theorem dX11_offersAll_95 : decode cX11_offersAll 95 = .ok (.if_icmp .ge 78, 3) := by decide +kernel
theorem dX11_offersAll_98 : decode cX11_offersAll 98 = .ok (.iconst 0, 1) := by decide +kernel
theorem dX11_offersAll_99 : decode cX11_offersAll 99 = .ok (.istore_n 2, 1) := by decide +kernel
theorem dX11_offersAll_100 : decode cX11_offersAll 100 = .ok (.iconst 0, 1) := by decide +kernel
theorem dX11_offersAll_101 : decode cX11_offersAll 101 = .ok (.istore_n 3, 1) := by decide +kernel
theorem dX11_offersAll_102 : decode cX11_offersAll 102 = .ok (.iload_n 3, 1) := by decide +kernel
theorem dX11_offersAll_103 : decode cX11_offersAll 103 = .ok (.aload_n 0, 1) := by decide +kernel
theorem dX11_offersAll_104 : decode cX11_offersAll 104 = .ok (.getfield 151, 3) := by decide +kernel
theorem dX11_offersAll_107 : decode cX11_offersAll 107 = .ok (.if_icmp .ge 49, 3) := by decide +kernel
theorem dX11_offersAll_110 : decode cX11_offersAll 110 = .ok (.iload_n 2, 1) := by decide +kernel
theorem dX11_offersAll_111 : decode cX11_offersAll 111 = .ok (.ifCond .ne 33, 3) := by decide +kernel
theorem dX11_offersAll_114 : decode cX11_offersAll 114 = .ok (.aload_n 0, 1) := by decide +kernel
theorem dX11_offersAll_115 : decode cX11_offersAll 115 = .ok (.getfield 28, 3) := by decide +kernel
theorem dX11_offersAll_118 : decode cX11_offersAll 118 = .ok (.iload_n 3, 1) := by decide +kernel
theorem dX11_offersAll_119 : decode cX11_offersAll 119 = .ok (.baload, 1) := by decide +kernel
theorem dX11_offersAll_120 : decode cX11_offersAll 120 = .ok (.ifCond .eq 28, 3) := by decide +kernel
theorem dX11_offersAll_123 : decode cX11_offersAll 123 = .ok (.aload_n 0, 1) := by decide +kernel
theorem dX11_offersAll_124 : decode cX11_offersAll 124 = .ok (.getfield 32, 3) := by decide +kernel
theorem dX11_offersAll_127 : decode cX11_offersAll 127 = .ok (.iload_n 3, 1) := by decide +kernel
theorem dX11_offersAll_128 : decode cX11_offersAll 128 = .ok (.baload, 1) := by decide +kernel
theorem dX11_offersAll_129 : decode cX11_offersAll 129 = .ok (.ifCond .ne 19, 3) := by decide +kernel
theorem dX11_offersAll_132 : decode cX11_offersAll 132 = .ok (.aload_n 0, 1) := by decide +kernel
theorem dX11_offersAll_133 : decode cX11_offersAll 133 = .ok (.getfield 22, 3) := by decide +kernel
theorem dX11_offersAll_136 : decode cX11_offersAll 136 = .ok (.iload_n 3, 1) := by decide +kernel
theorem dX11_offersAll_137 : decode cX11_offersAll 137 = .ok (.iaload, 1) := by decide +kernel
theorem dX11_offersAll_138 : decode cX11_offersAll 138 = .ok (.iconst 1, 1) := by decide +kernel
theorem dX11_offersAll_139 : decode cX11_offersAll 139 = .ok (.isub, 1) := by decide +kernel
theorem dX11_offersAll_140 : decode cX11_offersAll 140 = .ok (.iload_n 1, 1) := by decide +kernel
theorem dX11_offersAll_141 : decode cX11_offersAll 141 = .ok (.if_icmp .ne 7, 3) := by decide +kernel
theorem dX11_offersAll_144 : decode cX11_offersAll 144 = .ok (.iconst 1, 1) := by decide +kernel
theorem dX11_offersAll_145 : decode cX11_offersAll 145 = .ok (.goto 4, 3) := by decide +kernel
theorem dX11_offersAll_148 : decode cX11_offersAll 148 = .ok (.iconst 0, 1) := by decide +kernel
theorem dX11_offersAll_149 : decode cX11_offersAll 149 = .ok (.istore_n 2, 1) := by decide +kernel
theorem dX11_offersAll_150 : decode cX11_offersAll 150 = .ok (.iinc 3 1, 3) := by decide +kernel
theorem dX11_offersAll_153 : decode cX11_offersAll 153 = .ok (.goto (-51), 3) := by decide +kernel
theorem dX11_offersAll_156 : decode cX11_offersAll 156 = .ok (.iload_n 2, 1) := by decide +kernel
theorem dX11_offersAll_157 : decode cX11_offersAll 157 = .ok (.ifCond .eq 10, 3) := by decide +kernel
theorem dX11_offersAll_160 : decode cX11_offersAll 160 = .ok (.aload_n 0, 1) := by decide +kernel
theorem dX11_offersAll_161 : decode cX11_offersAll 161 = .ok (.bipush 122, 2) := by decide +kernel
theorem dX11_offersAll_163 : decode cX11_offersAll 163 = .ok (.iload_n 1, 1) := by decide +kernel
theorem dX11_offersAll_164 : decode cX11_offersAll 164 = .ok (.invokevirtual 348, 3) := by decide +kernel
theorem dX11_offersAll_167 : decode cX11_offersAll 167 = .ok (.iinc 1 1, 3) := by decide +kernel
theorem dX11_offersAll_170 : decode cX11_offersAll 170 = .ok (.goto (-79), 3) := by decide +kernel
theorem dX11_offersAll_173 : decode cX11_offersAll 173 = .ok (.iconst 0, 1) := by decide +kernel
theorem dX11_offersAll_174 : decode cX11_offersAll 174 = .ok (.istore_n 1, 1) := by decide +kernel
theorem dX11_offersAll_175 : decode cX11_offersAll 175 = .ok (.iload_n 1, 1) := by decide +kernel
theorem dX11_offersAll_176 : decode cX11_offersAll 176 = .ok (.bipush 7, 2) := by decide +kernel
theorem dX11_offersAll_178 : decode cX11_offersAll 178 = .ok (.if_icmp .ge 16, 3) := by decide +kernel
theorem dX11_offersAll_181 : decode cX11_offersAll 181 = .ok (.aload_n 0, 1) := by decide +kernel
theorem dX11_offersAll_182 : decode cX11_offersAll 182 = .ok (.bipush 100, 2) := by decide +kernel
theorem dX11_offersAll_184 : decode cX11_offersAll 184 = .ok (.iload_n 1, 1) := by decide +kernel
theorem dX11_offersAll_185 : decode cX11_offersAll 185 = .ok (.invokevirtual 348, 3) := by decide +kernel
theorem dX11_offersAll_188 : decode cX11_offersAll 188 = .ok (.iinc 1 1, 3) := by decide +kernel
theorem dX11_offersAll_191 : decode cX11_offersAll 191 = .ok (.goto (-16), 3) := by decide +kernel
theorem dX11_offersAll_194 : decode cX11_offersAll 194 = .ok (.return_, 1) := by decide +kernel
theorem dX11_candidateHolds_0 : decode cX11_candidateHolds 0 = .ok (.aload_n 0, 1) := by decide +kernel
theorem dX11_candidateHolds_1 : decode cX11_candidateHolds 1 = .ok (.aload_n 0, 1) := by decide +kernel
theorem dX11_candidateHolds_2 : decode cX11_candidateHolds 2 = .ok (.getfield 132, 3) := by decide +kernel
theorem dX11_candidateHolds_5 : decode cX11_candidateHolds 5 = .ok (.iload_n 1, 1) := by decide +kernel
theorem dX11_candidateHolds_6 : decode cX11_candidateHolds 6 = .ok (.iconst 2, 1) := by decide +kernel
theorem dX11_candidateHolds_7 : decode cX11_candidateHolds 7 = .ok (.idiv, 1) := by decide +kernel
theorem dX11_candidateHolds_8 : decode cX11_candidateHolds 8 = .ok (.caload, 1) := by decide +kernel
theorem dX11_candidateHolds_9 : decode cX11_candidateHolds 9 = .ok (.aload_n 0, 1) := by decide +kernel
theorem dX11_candidateHolds_10 : decode cX11_candidateHolds 10 = .ok (.getfield 135, 3) := by decide +kernel
theorem dX11_candidateHolds_13 : decode cX11_candidateHolds 13 = .ok (.iload_n 1, 1) := by decide +kernel
theorem dX11_candidateHolds_14 : decode cX11_candidateHolds 14 = .ok (.iconst 2, 1) := by decide +kernel
theorem dX11_candidateHolds_15 : decode cX11_candidateHolds 15 = .ok (.idiv, 1) := by decide +kernel
theorem dX11_candidateHolds_16 : decode cX11_candidateHolds 16 = .ok (.iaload, 1) := by decide +kernel
theorem dX11_candidateHolds_17 : decode cX11_candidateHolds 17 = .ok (.iload_n 2, 1) := by decide +kernel
theorem dX11_candidateHolds_18 : decode cX11_candidateHolds 18 = .ok (.invokevirtual 190, 3) := by decide +kernel
theorem dX11_candidateHolds_21 : decode cX11_candidateHolds 21 = .ok (.iload_n 1, 1) := by decide +kernel
theorem dX11_candidateHolds_22 : decode cX11_candidateHolds 22 = .ok (.iconst 2, 1) := by decide +kernel
theorem dX11_candidateHolds_23 : decode cX11_candidateHolds 23 = .ok (.irem, 1) := by decide +kernel
theorem dX11_candidateHolds_24 : decode cX11_candidateHolds 24 = .ok (.ifCond .ne 7, 3) := by decide +kernel
theorem dX11_candidateHolds_27 : decode cX11_candidateHolds 27 = .ok (.iconst 1, 1) := by decide +kernel
theorem dX11_candidateHolds_28 : decode cX11_candidateHolds 28 = .ok (.goto 4, 3) := by decide +kernel
theorem dX11_candidateHolds_31 : decode cX11_candidateHolds 31 = .ok (.iconst 0, 1) := by decide +kernel
theorem dX11_candidateHolds_32 : decode cX11_candidateHolds 32 = .ok (.if_icmp .ne 7, 3) := by decide +kernel
theorem dX11_candidateHolds_35 : decode cX11_candidateHolds 35 = .ok (.iconst 1, 1) := by decide +kernel
theorem dX11_candidateHolds_36 : decode cX11_candidateHolds 36 = .ok (.goto 4, 3) := by decide +kernel
theorem dX11_candidateHolds_39 : decode cX11_candidateHolds 39 = .ok (.iconst 0, 1) := by decide +kernel
theorem dX11_candidateHolds_40 : decode cX11_candidateHolds 40 = .ok (.ireturn, 1) := by decide +kernel
theorem dX11_fits_0 : decode cX11_fits 0 = .ok (.iconst 0, 1) := by decide +kernel
theorem dX11_fits_1 : decode cX11_fits 1 = .ok (.istore 4, 2) := by decide +kernel
theorem dX11_fits_3 : decode cX11_fits 3 = .ok (.iload 4, 2) := by decide +kernel
theorem dX11_fits_5 : decode cX11_fits 5 = .ok (.aload_n 0, 1) := by decide +kernel
theorem dX11_fits_6 : decode cX11_fits 6 = .ok (.getfield 151, 3) := by decide +kernel
theorem dX11_fits_9 : decode cX11_fits 9 = .ok (.if_icmp .ge 99, 3) := by decide +kernel
theorem dX11_fits_12 : decode cX11_fits 12 = .ok (.aload_n 0, 1) := by decide +kernel
theorem dX11_fits_13 : decode cX11_fits 13 = .ok (.getfield 28, 3) := by decide +kernel
theorem dX11_fits_16 : decode cX11_fits 16 = .ok (.iload 4, 2) := by decide +kernel
theorem dX11_fits_18 : decode cX11_fits 18 = .ok (.baload, 1) := by decide +kernel
theorem dX11_fits_19 : decode cX11_fits 19 = .ok (.ifCond .eq 83, 3) := by decide +kernel
theorem dX11_fits_22 : decode cX11_fits 22 = .ok (.aload_n 0, 1) := by decide +kernel
theorem dX11_fits_23 : decode cX11_fits 23 = .ok (.getfield 32, 3) := by decide +kernel
theorem dX11_fits_26 : decode cX11_fits 26 = .ok (.iload 4, 2) := by decide +kernel
theorem dX11_fits_28 : decode cX11_fits 28 = .ok (.baload, 1) := by decide +kernel
theorem dX11_fits_29 : decode cX11_fits 29 = .ok (.ifCond .ne 73, 3) := by decide +kernel
theorem dX11_fits_32 : decode cX11_fits 32 = .ok (.aload_n 0, 1) := by decide +kernel
theorem dX11_fits_33 : decode cX11_fits 33 = .ok (.getfield 35, 3) := by decide +kernel
theorem dX11_fits_36 : decode cX11_fits 36 = .ok (.iload 4, 2) := by decide +kernel
theorem dX11_fits_38 : decode cX11_fits 38 = .ok (.iaload, 1) := by decide +kernel
theorem dX11_fits_39 : decode cX11_fits 39 = .ok (.iload_n 3, 1) := by decide +kernel
theorem dX11_fits_40 : decode cX11_fits 40 = .ok (.if_icmp .ne 18, 3) := by decide +kernel
theorem dX11_fits_43 : decode cX11_fits 43 = .ok (.aload_n 0, 1) := by decide +kernel
theorem dX11_fits_44 : decode cX11_fits 44 = .ok (.getfield 41, 3) := by decide +kernel
theorem dX11_fits_47 : decode cX11_fits 47 = .ok (.iload 4, 2) := by decide +kernel
theorem dX11_fits_49 : decode cX11_fits 49 = .ok (.iaload, 1) := by decide +kernel
theorem dX11_fits_50 : decode cX11_fits 50 = .ok (.iload_n 3, 1) := by decide +kernel
theorem dX11_fits_51 : decode cX11_fits 51 = .ok (.if_icmp .ne 7, 3) := by decide +kernel
theorem dX11_fits_54 : decode cX11_fits 54 = .ok (.iconst 1, 1) := by decide +kernel
theorem dX11_fits_55 : decode cX11_fits 55 = .ok (.goto 4, 3) := by decide +kernel
theorem dX11_fits_58 : decode cX11_fits 58 = .ok (.iconst 0, 1) := by decide +kernel
theorem dX11_fits_59 : decode cX11_fits 59 = .ok (.istore 5, 2) := by decide +kernel
theorem dX11_fits_61 : decode cX11_fits 61 = .ok (.aload_n 0, 1) := by decide +kernel
theorem dX11_fits_62 : decode cX11_fits 62 = .ok (.iload_n 1, 1) := by decide +kernel
theorem dX11_fits_63 : decode cX11_fits 63 = .ok (.iload 4, 2) := by decide +kernel
theorem dX11_fits_65 : decode cX11_fits 65 = .ok (.invokevirtual 352, 3) := by decide +kernel
theorem dX11_fits_68 : decode cX11_fits 68 = .ok (.ifCond .eq 22, 3) := by decide +kernel
theorem dX11_fits_71 : decode cX11_fits 71 = .ok (.iload_n 2, 1) := by decide +kernel
theorem dX11_fits_72 : decode cX11_fits 72 = .ok (.iconst (-1), 1) := by decide +kernel
theorem dX11_fits_73 : decode cX11_fits 73 = .ok (.if_icmp .eq 13, 3) := by decide +kernel
theorem dX11_fits_76 : decode cX11_fits 76 = .ok (.aload_n 0, 1) := by decide +kernel
theorem dX11_fits_77 : decode cX11_fits 77 = .ok (.iload_n 2, 1) := by decide +kernel
theorem dX11_fits_78 : decode cX11_fits 78 = .ok (.iload 4, 2) := by decide +kernel
theorem dX11_fits_80 : decode cX11_fits 80 = .ok (.invokevirtual 352, 3) := by decide +kernel
theorem dX11_fits_83 : decode cX11_fits 83 = .ok (.ifCond .eq 7, 3) := by decide +kernel
theorem dX11_fits_86 : decode cX11_fits 86 = .ok (.iconst 1, 1) := by decide +kernel
theorem dX11_fits_87 : decode cX11_fits 87 = .ok (.goto 4, 3) := by decide +kernel
theorem dX11_fits_90 : decode cX11_fits 90 = .ok (.iconst 0, 1) := by decide +kernel
theorem dX11_fits_91 : decode cX11_fits 91 = .ok (.istore 6, 2) := by decide +kernel
theorem dX11_fits_93 : decode cX11_fits 93 = .ok (.iload 6, 2) := by decide +kernel
theorem dX11_fits_95 : decode cX11_fits 95 = .ok (.iload 5, 2) := by decide +kernel
theorem dX11_fits_97 : decode cX11_fits 97 = .ok (.if_icmp .eq 5, 3) := by decide +kernel
theorem dX11_fits_100 : decode cX11_fits 100 = .ok (.iconst 0, 1) := by decide +kernel
theorem dX11_fits_101 : decode cX11_fits 101 = .ok (.ireturn, 1) := by decide +kernel
theorem dX11_fits_102 : decode cX11_fits 102 = .ok (.iinc 4 1, 3) := by decide +kernel
theorem dX11_fits_105 : decode cX11_fits 105 = .ok (.goto (-102), 3) := by decide +kernel
theorem dX11_fits_108 : decode cX11_fits 108 = .ok (.iconst 1, 1) := by decide +kernel
theorem dX11_fits_109 : decode cX11_fits 109 = .ok (.ireturn, 1) := by decide +kernel
theorem dX11_parts_0 : decode cX11_parts 0 = .ok (.iload_n 1, 1) := by decide +kernel
theorem dX11_parts_1 : decode cX11_parts 1 = .ok (.iconst (-1), 1) := by decide +kernel
theorem dX11_parts_2 : decode cX11_parts 2 = .ok (.if_icmp .ne 7, 3) := by decide +kernel
theorem dX11_parts_5 : decode cX11_parts 5 = .ok (.iconst 0, 1) := by decide +kernel
theorem dX11_parts_6 : decode cX11_parts 6 = .ok (.goto 8, 3) := by decide +kernel
theorem dX11_parts_9 : decode cX11_parts 9 = .ok (.iconst 1, 1) := by decide +kernel
theorem dX11_parts_10 : decode cX11_parts 10 = .ok (.iload_n 1, 1) := by decide +kernel
theorem dX11_parts_11 : decode cX11_parts 11 = .ok (.iconst 2, 1) := by decide +kernel
theorem dX11_parts_12 : decode cX11_parts 12 = .ok (.irem, 1) := by decide +kernel
theorem dX11_parts_13 : decode cX11_parts 13 = .ok (.iadd, 1) := by decide +kernel
theorem dX11_parts_14 : decode cX11_parts 14 = .ok (.ireturn, 1) := by decide +kernel
theorem dX11_makes_0 : decode cX11_makes 0 = .ok (.aload_n 0, 1) := by decide +kernel
theorem dX11_makes_1 : decode cX11_makes 1 = .ok (.aload_n 0, 1) := by decide +kernel
theorem dX11_makes_2 : decode cX11_makes 2 = .ok (.getfield 132, 3) := by decide +kernel
theorem dX11_makes_5 : decode cX11_makes 5 = .ok (.iload_n 1, 1) := by decide +kernel
theorem dX11_makes_6 : decode cX11_makes 6 = .ok (.iconst 2, 1) := by decide +kernel
theorem dX11_makes_7 : decode cX11_makes 7 = .ok (.idiv, 1) := by decide +kernel
theorem dX11_makes_8 : decode cX11_makes 8 = .ok (.caload, 1) := by decide +kernel
theorem dX11_makes_9 : decode cX11_makes 9 = .ok (.aload_n 0, 1) := by decide +kernel
theorem dX11_makes_10 : decode cX11_makes 10 = .ok (.getfield 135, 3) := by decide +kernel
theorem dX11_makes_13 : decode cX11_makes 13 = .ok (.iload_n 1, 1) := by decide +kernel
theorem dX11_makes_14 : decode cX11_makes 14 = .ok (.iconst 2, 1) := by decide +kernel
theorem dX11_makes_15 : decode cX11_makes 15 = .ok (.idiv, 1) := by decide +kernel
theorem dX11_makes_16 : decode cX11_makes 16 = .ok (.iaload, 1) := by decide +kernel
theorem dX11_makes_17 : decode cX11_makes 17 = .ok (.iconst 0, 1) := by decide +kernel
theorem dX11_makes_18 : decode cX11_makes 18 = .ok (.invokevirtual 183, 3) := by decide +kernel
theorem dX11_makes_21 : decode cX11_makes 21 = .ok (.istore_n 2, 1) := by decide +kernel
theorem dX11_makes_22 : decode cX11_makes 22 = .ok (.iload_n 1, 1) := by decide +kernel
theorem dX11_makes_23 : decode cX11_makes 23 = .ok (.iconst 2, 1) := by decide +kernel
theorem dX11_makes_24 : decode cX11_makes 24 = .ok (.irem, 1) := by decide +kernel
theorem dX11_makes_25 : decode cX11_makes 25 = .ok (.ifCond .ne 7, 3) := by decide +kernel
theorem dX11_makes_28 : decode cX11_makes 28 = .ok (.iload_n 2, 1) := by decide +kernel
theorem dX11_makes_29 : decode cX11_makes 29 = .ok (.goto 11, 3) := by decide +kernel
theorem dX11_makes_32 : decode cX11_makes 32 = .ok (.aload_n 0, 1) := by decide +kernel
theorem dX11_makes_33 : decode cX11_makes 33 = .ok (.bipush 33, 2) := by decide +kernel
theorem dX11_makes_35 : decode cX11_makes 35 = .ok (.iload_n 2, 1) := by decide +kernel
theorem dX11_makes_36 : decode cX11_makes 36 = .ok (.iconst 0, 1) := by decide +kernel
theorem dX11_makes_37 : decode cX11_makes 37 = .ok (.invokevirtual 183, 3) := by decide +kernel
theorem dX11_makes_40 : decode cX11_makes 40 = .ok (.ireturn, 1) := by decide +kernel
theorem dX11_learn_0 : decode cX11_learn 0 = .ok (.aload_n 0, 1) := by decide +kernel
theorem dX11_learn_1 : decode cX11_learn 1 = .ok (.iconst 0, 1) := by decide +kernel
theorem dX11_learn_2 : decode cX11_learn 2 = .ok (.putfield 138, 3) := by decide +kernel
theorem dX11_learn_5 : decode cX11_learn 5 = .ok (.iload_n 1, 1) := by decide +kernel
theorem dX11_learn_6 : decode cX11_learn 6 = .ok (.iconst 0, 1) := by decide +kernel
theorem dX11_learn_7 : decode cX11_learn 7 = .ok (.bipush 7, 2) := by decide +kernel
theorem dX11_learn_9 : decode cX11_learn 9 = .ok (.invokestatic 142, 3) := by decide +kernel
theorem dX11_learn_12 : decode cX11_learn 12 = .ok (.ifCond .ne 9, 3) := by decide +kernel
theorem dX11_learn_15 : decode cX11_learn 15 = .ok (.aload_n 0, 1) := by decide +kernel
theorem dX11_learn_16 : decode cX11_learn 16 = .ok (.iconst 1, 1) := by decide +kernel
theorem dX11_learn_17 : decode cX11_learn 17 = .ok (.invokevirtual 147, 3) := by decide +kernel
theorem dX11_learn_20 : decode cX11_learn 20 = .ok (.ireturn, 1) := by decide +kernel
theorem dX11_learn_21 : decode cX11_learn 21 = .ok (.iconst 0, 1) := by decide +kernel
theorem dX11_learn_22 : decode cX11_learn 22 = .ok (.istore_n 2, 1) := by decide +kernel
theorem dX11_learn_23 : decode cX11_learn 23 = .ok (.iconst 0, 1) := by decide +kernel
theorem dX11_learn_24 : decode cX11_learn 24 = .ok (.istore_n 3, 1) := by decide +kernel
theorem dX11_learn_25 : decode cX11_learn 25 = .ok (.iload_n 3, 1) := by decide +kernel
theorem dX11_learn_26 : decode cX11_learn 26 = .ok (.aload_n 0, 1) := by decide +kernel
theorem dX11_learn_27 : decode cX11_learn 27 = .ok (.getfield 151, 3) := by decide +kernel
theorem dX11_learn_30 : decode cX11_learn 30 = .ok (.if_icmp .ge 38, 3) := by decide +kernel
theorem dX11_learn_33 : decode cX11_learn 33 = .ok (.iload_n 2, 1) := by decide +kernel
theorem dX11_learn_34 : decode cX11_learn 34 = .ok (.ifCond .ne 22, 3) := by decide +kernel
theorem dX11_learn_37 : decode cX11_learn 37 = .ok (.aload_n 0, 1) := by decide +kernel
theorem dX11_learn_38 : decode cX11_learn 38 = .ok (.iload_n 3, 1) := by decide +kernel
theorem dX11_learn_39 : decode cX11_learn 39 = .ok (.iload_n 1, 1) := by decide +kernel
theorem dX11_learn_40 : decode cX11_learn 40 = .ok (.invokevirtual 157, 3) := by decide +kernel
theorem dX11_learn_43 : decode cX11_learn 43 = .ok (.ifCond .eq 17, 3) := by decide +kernel
theorem dX11_learn_46 : decode cX11_learn 46 = .ok (.aload_n 0, 1) := by decide +kernel
theorem dX11_learn_47 : decode cX11_learn 47 = .ok (.getfield 41, 3) := by decide +kernel
theorem dX11_learn_50 : decode cX11_learn 50 = .ok (.iload_n 3, 1) := by decide +kernel
theorem dX11_learn_51 : decode cX11_learn 51 = .ok (.iaload, 1) := by decide +kernel
theorem dX11_learn_52 : decode cX11_learn 52 = .ok (.iload_n 1, 1) := by decide +kernel
theorem dX11_learn_53 : decode cX11_learn 53 = .ok (.if_icmp .ne 7, 3) := by decide +kernel
theorem dX11_learn_56 : decode cX11_learn 56 = .ok (.iconst 1, 1) := by decide +kernel
theorem dX11_learn_57 : decode cX11_learn 57 = .ok (.goto 4, 3) := by decide +kernel
theorem dX11_learn_60 : decode cX11_learn 60 = .ok (.iconst 0, 1) := by decide +kernel
theorem dX11_learn_61 : decode cX11_learn 61 = .ok (.istore_n 2, 1) := by decide +kernel
theorem dX11_learn_62 : decode cX11_learn 62 = .ok (.iinc 3 1, 3) := by decide +kernel
theorem dX11_learn_65 : decode cX11_learn 65 = .ok (.goto (-40), 3) := by decide +kernel
theorem dX11_learn_68 : decode cX11_learn 68 = .ok (.aload_n 0, 1) := by decide +kernel
theorem dX11_learn_69 : decode cX11_learn 69 = .ok (.invokevirtual 355, 3) := by decide +kernel
theorem dX11_learn_72 : decode cX11_learn 72 = .ok (.iconst (-1), 1) := by decide +kernel
theorem dX11_learn_73 : decode cX11_learn 73 = .ok (.istore_n 3, 1) := by decide +kernel
theorem dX11_learn_74 : decode cX11_learn 74 = .ok (.iconst (-1), 1) := by decide +kernel
theorem dX11_learn_75 : decode cX11_learn 75 = .ok (.istore 4, 2) := by decide +kernel
theorem dX11_learn_77 : decode cX11_learn 77 = .ok (.iconst 0, 1) := by decide +kernel
theorem dX11_learn_78 : decode cX11_learn 78 = .ok (.istore 5, 2) := by decide +kernel
theorem dX11_learn_80 : decode cX11_learn 80 = .ok (.iload 5, 2) := by decide +kernel
theorem dX11_learn_82 : decode cX11_learn 82 = .ok (.iconst 2, 1) := by decide +kernel
theorem dX11_learn_83 : decode cX11_learn 83 = .ok (.aload_n 0, 1) := by decide +kernel
theorem dX11_learn_84 : decode cX11_learn 84 = .ok (.getfield 345, 3) := by decide +kernel
theorem dX11_learn_87 : decode cX11_learn 87 = .ok (.imul, 1) := by decide +kernel
theorem dX11_learn_88 : decode cX11_learn 88 = .ok (.if_icmp .ge 36, 3) := by decide +kernel
theorem dX11_learn_91 : decode cX11_learn 91 = .ok (.iload_n 3, 1) := by decide +kernel
theorem dX11_learn_92 : decode cX11_learn 92 = .ok (.iconst (-1), 1) := by decide +kernel
theorem dX11_learn_93 : decode cX11_learn 93 = .ok (.if_icmp .ne 31, 3) := by decide +kernel
theorem dX11_learn_96 : decode cX11_learn 96 = .ok (.iload_n 2, 1) := by decide +kernel
theorem dX11_learn_97 : decode cX11_learn 97 = .ok (.ifCond .eq 27, 3) := by decide +kernel
theorem dX11_learn_100 : decode cX11_learn 100 = .ok (.aload_n 0, 1) := by decide +kernel
theorem dX11_learn_101 : decode cX11_learn 101 = .ok (.iload 5, 2) := by decide +kernel
theorem dX11_learn_103 : decode cX11_learn 103 = .ok (.iconst (-1), 1) := by decide +kernel
theorem dX11_learn_104 : decode cX11_learn 104 = .ok (.iload_n 1, 1) := by decide +kernel
theorem dX11_learn_105 : decode cX11_learn 105 = .ok (.invokevirtual 358, 3) := by decide +kernel
theorem dX11_learn_108 : decode cX11_learn 108 = .ok (.ifCond .eq 8, 3) := by decide +kernel
theorem dX11_learn_111 : decode cX11_learn 111 = .ok (.iload 5, 2) := by decide +kernel
theorem dX11_learn_113 : decode cX11_learn 113 = .ok (.goto 4, 3) := by decide +kernel
theorem dX11_learn_116 : decode cX11_learn 116 = .ok (.iconst (-1), 1) := by decide +kernel
theorem dX11_learn_117 : decode cX11_learn 117 = .ok (.istore_n 3, 1) := by decide +kernel
theorem dX11_learn_118 : decode cX11_learn 118 = .ok (.iinc 5 1, 3) := by decide +kernel
theorem dX11_learn_121 : decode cX11_learn 121 = .ok (.goto (-41), 3) := by decide +kernel
theorem dX11_learn_124 : decode cX11_learn 124 = .ok (.iconst 0, 1) := by decide +kernel
theorem dX11_learn_125 : decode cX11_learn 125 = .ok (.istore 5, 2) := by decide +kernel
theorem dX11_learn_127 : decode cX11_learn 127 = .ok (.iload 5, 2) := by decide +kernel
theorem dX11_learn_129 : decode cX11_learn 129 = .ok (.iconst 2, 1) := by decide +kernel
theorem dX11_learn_130 : decode cX11_learn 130 = .ok (.aload_n 0, 1) := by decide +kernel
theorem dX11_learn_131 : decode cX11_learn 131 = .ok (.getfield 345, 3) := by decide +kernel
theorem dX11_learn_134 : decode cX11_learn 134 = .ok (.imul, 1) := by decide +kernel
theorem dX11_learn_135 : decode cX11_learn 135 = .ok (.if_icmp .ge 65, 3) := by decide +kernel
theorem dX11_learn_138 : decode cX11_learn 138 = .ok (.iload_n 3, 1) := by decide +kernel
theorem dX11_learn_139 : decode cX11_learn 139 = .ok (.iconst (-1), 1) := by decide +kernel
theorem dX11_learn_140 : decode cX11_learn 140 = .ok (.if_icmp .ne 60, 3) := by decide +kernel
theorem dX11_learn_143 : decode cX11_learn 143 = .ok (.iload_n 2, 1) := by decide +kernel
theorem dX11_learn_144 : decode cX11_learn 144 = .ok (.ifCond .eq 56, 3) := by decide +kernel
theorem dX11_learn_147 : decode cX11_learn 147 = .ok (.iload 5, 2) := by decide +kernel
theorem dX11_learn_149 : decode cX11_learn 149 = .ok (.iconst 1, 1) := by decide +kernel
theorem dX11_learn_150 : decode cX11_learn 150 = .ok (.iadd, 1) := by decide +kernel
theorem dX11_learn_151 : decode cX11_learn 151 = .ok (.istore 6, 2) := by decide +kernel
theorem dX11_learn_153 : decode cX11_learn 153 = .ok (.iload 6, 2) := by decide +kernel
theorem dX11_learn_155 : decode cX11_learn 155 = .ok (.iconst 2, 1) := by decide +kernel
theorem dX11_learn_156 : decode cX11_learn 156 = .ok (.aload_n 0, 1) := by decide +kernel
theorem dX11_learn_157 : decode cX11_learn 157 = .ok (.getfield 345, 3) := by decide +kernel
theorem dX11_learn_160 : decode cX11_learn 160 = .ok (.imul, 1) := by decide +kernel
theorem dX11_learn_161 : decode cX11_learn 161 = .ok (.if_icmp .ge 33, 3) := by decide +kernel
theorem dX11_learn_164 : decode cX11_learn 164 = .ok (.iload_n 3, 1) := by decide +kernel
theorem dX11_learn_165 : decode cX11_learn 165 = .ok (.iconst (-1), 1) := by decide +kernel
theorem dX11_learn_166 : decode cX11_learn 166 = .ok (.if_icmp .ne 28, 3) := by decide +kernel
theorem dX11_learn_169 : decode cX11_learn 169 = .ok (.aload_n 0, 1) := by decide +kernel
theorem dX11_learn_170 : decode cX11_learn 170 = .ok (.iload 5, 2) := by decide +kernel
theorem dX11_learn_172 : decode cX11_learn 172 = .ok (.iload 6, 2) := by decide +kernel
theorem dX11_learn_174 : decode cX11_learn 174 = .ok (.iload_n 1, 1) := by decide +kernel
theorem dX11_learn_175 : decode cX11_learn 175 = .ok (.invokevirtual 358, 3) := by decide +kernel
theorem dX11_learn_178 : decode cX11_learn 178 = .ok (.ifCond .eq 10, 3) := by decide +kernel
theorem dX11_learn_181 : decode cX11_learn 181 = .ok (.iload 5, 2) := by decide +kernel
theorem dX11_learn_183 : decode cX11_learn 183 = .ok (.istore_n 3, 1) := by decide +kernel
theorem dX11_learn_184 : decode cX11_learn 184 = .ok (.iload 6, 2) := by decide +kernel
theorem dX11_learn_186 : decode cX11_learn 186 = .ok (.istore 4, 2) := by decide +kernel
theorem dX11_learn_188 : decode cX11_learn 188 = .ok (.iinc 6 1, 3) := by decide +kernel
theorem dX11_learn_191 : decode cX11_learn 191 = .ok (.goto (-38), 3) := by decide +kernel
theorem dX11_learn_194 : decode cX11_learn 194 = .ok (.iinc 5 1, 3) := by decide +kernel
theorem dX11_learn_197 : decode cX11_learn 197 = .ok (.goto (-70), 3) := by decide +kernel
theorem dX11_learn_200 : decode cX11_learn 200 = .ok (.iload_n 3, 1) := by decide +kernel
theorem dX11_learn_201 : decode cX11_learn 201 = .ok (.iconst (-1), 1) := by decide +kernel
theorem dX11_learn_202 : decode cX11_learn 202 = .ok (.if_icmp .ne 9, 3) := by decide +kernel
theorem dX11_learn_205 : decode cX11_learn 205 = .ok (.aload_n 0, 1) := by decide +kernel
theorem dX11_learn_206 : decode cX11_learn 206 = .ok (.iconst 2, 1) := by decide +kernel
theorem dX11_learn_207 : decode cX11_learn 207 = .ok (.invokevirtual 147, 3) := by decide +kernel
theorem dX11_learn_210 : decode cX11_learn 210 = .ok (.ireturn, 1) := by decide +kernel
theorem dX11_learn_211 : decode cX11_learn 211 = .ok (.aload_n 0, 1) := by decide +kernel
theorem dX11_learn_212 : decode cX11_learn 212 = .ok (.getfield 173, 3) := by decide +kernel
theorem dX11_learn_215 : decode cX11_learn 215 = .ok (.aload_n 0, 1) := by decide +kernel
theorem dX11_learn_216 : decode cX11_learn 216 = .ok (.iload_n 3, 1) := by decide +kernel
theorem dX11_learn_217 : decode cX11_learn 217 = .ok (.invokevirtual 361, 3) := by decide +kernel
theorem dX11_learn_220 : decode cX11_learn 220 = .ok (.iadd, 1) := by decide +kernel
theorem dX11_learn_221 : decode cX11_learn 221 = .ok (.aload_n 0, 1) := by decide +kernel
theorem dX11_learn_222 : decode cX11_learn 222 = .ok (.iload 4, 2) := by decide +kernel
theorem dX11_learn_224 : decode cX11_learn 224 = .ok (.invokevirtual 361, 3) := by decide +kernel
theorem dX11_learn_227 : decode cX11_learn 227 = .ok (.iadd, 1) := by decide +kernel
theorem dX11_learn_228 : decode cX11_learn 228 = .ok (.iload 4, 2) := by decide +kernel
theorem dX11_learn_230 : decode cX11_learn 230 = .ok (.iconst (-1), 1) := by decide +kernel
theorem dX11_learn_231 : decode cX11_learn 231 = .ok (.if_icmp .ne 7, 3) := by decide +kernel
theorem dX11_learn_234 : decode cX11_learn 234 = .ok (.iconst 0, 1) := by decide +kernel
theorem dX11_learn_235 : decode cX11_learn 235 = .ok (.goto 4, 3) := by decide +kernel
theorem dX11_learn_238 : decode cX11_learn 238 = .ok (.iconst 1, 1) := by decide +kernel
theorem dX11_learn_239 : decode cX11_learn 239 = .ok (.iadd, 1) := by decide +kernel
theorem dX11_learn_240 : decode cX11_learn 240 = .ok (.bipush 60, 2) := by decide +kernel
theorem dX11_learn_242 : decode cX11_learn 242 = .ok (.if_icmp .le 9, 3) := by decide +kernel
theorem dX11_learn_245 : decode cX11_learn 245 = .ok (.aload_n 0, 1) := by decide +kernel
theorem dX11_learn_246 : decode cX11_learn 246 = .ok (.iconst 3, 1) := by decide +kernel
theorem dX11_learn_247 : decode cX11_learn 247 = .ok (.invokevirtual 147, 3) := by decide +kernel
theorem dX11_learn_250 : decode cX11_learn 250 = .ok (.ireturn, 1) := by decide +kernel
theorem dX11_learn_251 : decode cX11_learn 251 = .ok (.aload_n 0, 1) := by decide +kernel
theorem dX11_learn_252 : decode cX11_learn 252 = .ok (.iload_n 3, 1) := by decide +kernel
theorem dX11_learn_253 : decode cX11_learn 253 = .ok (.invokevirtual 364, 3) := by decide +kernel
theorem dX11_learn_256 : decode cX11_learn 256 = .ok (.istore 5, 2) := by decide +kernel
theorem dX11_learn_258 : decode cX11_learn 258 = .ok (.iload 4, 2) := by decide +kernel
theorem dX11_learn_260 : decode cX11_learn 260 = .ok (.iconst (-1), 1) := by decide +kernel
theorem dX11_learn_261 : decode cX11_learn 261 = .ok (.if_icmp .ne 8, 3) := by decide +kernel
theorem dX11_learn_264 : decode cX11_learn 264 = .ok (.iload 5, 2) := by decide +kernel
theorem dX11_learn_266 : decode cX11_learn 266 = .ok (.goto 17, 3) := by decide +kernel
theorem dX11_learn_269 : decode cX11_learn 269 = .ok (.aload_n 0, 1) := by decide +kernel
theorem dX11_learn_270 : decode cX11_learn 270 = .ok (.bipush 38, 2) := by decide +kernel
theorem dX11_learn_272 : decode cX11_learn 272 = .ok (.iload 5, 2) := by decide +kernel
theorem dX11_learn_274 : decode cX11_learn 274 = .ok (.aload_n 0, 1) := by decide +kernel
theorem dX11_learn_275 : decode cX11_learn 275 = .ok (.iload 4, 2) := by decide +kernel
theorem dX11_learn_277 : decode cX11_learn 277 = .ok (.invokevirtual 364, 3) := by decide +kernel
theorem dX11_learn_280 : decode cX11_learn 280 = .ok (.invokevirtual 183, 3) := by decide +kernel
theorem dX11_learn_283 : decode cX11_learn 283 = .ok (.ireturn, 1) := by decide +kernel
theorem dX11_sum_0 : decode cX11_sum 0 = .ok (.aload_n 0, 1) := by decide +kernel
theorem dX11_sum_1 : decode cX11_sum 1 = .ok (.iconst 0, 1) := by decide +kernel
theorem dX11_sum_2 : decode cX11_sum 2 = .ok (.putfield 138, 3) := by decide +kernel
theorem dX11_sum_5 : decode cX11_sum 5 = .ok (.lconst 0, 1) := by decide +kernel
theorem dX11_sum_6 : decode cX11_sum 6 = .ok (.lstore_n 1, 1) := by decide +kernel
theorem dX11_sum_7 : decode cX11_sum 7 = .ok (.iconst 0, 1) := by decide +kernel
theorem dX11_sum_8 : decode cX11_sum 8 = .ok (.istore_n 3, 1) := by decide +kernel
theorem dX11_sum_9 : decode cX11_sum 9 = .ok (.iload_n 3, 1) := by decide +kernel
theorem dX11_sum_10 : decode cX11_sum 10 = .ok (.aload_n 0, 1) := by decide +kernel
theorem dX11_sum_11 : decode cX11_sum 11 = .ok (.getfield 151, 3) := by decide +kernel
theorem dX11_sum_14 : decode cX11_sum 14 = .ok (.if_icmp .ge 32, 3) := by decide +kernel
theorem dX11_sum_17 : decode cX11_sum 17 = .ok (.lload_n 1, 1) := by decide +kernel
theorem dX11_sum_18 : decode cX11_sum 18 = .ok (.aload_n 0, 1) := by decide +kernel
theorem dX11_sum_19 : decode cX11_sum 19 = .ok (.getfield 32, 3) := by decide +kernel
theorem dX11_sum_22 : decode cX11_sum 22 = .ok (.iload_n 3, 1) := by decide +kernel
theorem dX11_sum_23 : decode cX11_sum 23 = .ok (.baload, 1) := by decide +kernel
theorem dX11_sum_24 : decode cX11_sum 24 = .ok (.ifCond .eq 7, 3) := by decide +kernel
theorem dX11_sum_27 : decode cX11_sum 27 = .ok (.lconst 0, 1) := by decide +kernel
theorem dX11_sum_28 : decode cX11_sum 28 = .ok (.goto 10, 3) := by decide +kernel
theorem dX11_sum_31 : decode cX11_sum 31 = .ok (.aload_n 0, 1) := by decide +kernel
theorem dX11_sum_32 : decode cX11_sum 32 = .ok (.getfield 22, 3) := by decide +kernel
theorem dX11_sum_35 : decode cX11_sum 35 = .ok (.iload_n 3, 1) := by decide +kernel
theorem dX11_sum_36 : decode cX11_sum 36 = .ok (.iaload, 1) := by decide +kernel
theorem dX11_sum_37 : decode cX11_sum 37 = .ok (.i2l, 1) := by decide +kernel
theorem dX11_sum_38 : decode cX11_sum 38 = .ok (.ladd, 1) := by decide +kernel
theorem dX11_sum_39 : decode cX11_sum 39 = .ok (.lstore_n 1, 1) := by decide +kernel
theorem dX11_sum_40 : decode cX11_sum 40 = .ok (.iinc 3 1, 3) := by decide +kernel
theorem dX11_sum_43 : decode cX11_sum 43 = .ok (.goto (-34), 3) := by decide +kernel
theorem dX11_sum_46 : decode cX11_sum 46 = .ok (.lload_n 1, 1) := by decide +kernel
theorem dX11_sum_47 : decode cX11_sum 47 = .ok (.lreturn, 1) := by decide +kernel
theorem dX11_goneShare_0 : decode cX11_goneShare 0 = .ok (.iconst 0, 1) := by decide +kernel
theorem dX11_goneShare_1 : decode cX11_goneShare 1 = .ok (.istore_n 1, 1) := by decide +kernel
theorem dX11_goneShare_2 : decode cX11_goneShare 2 = .ok (.iconst 0, 1) := by decide +kernel
theorem dX11_goneShare_3 : decode cX11_goneShare 3 = .ok (.istore_n 2, 1) := by decide +kernel
theorem dX11_goneShare_4 : decode cX11_goneShare 4 = .ok (.iconst 0, 1) := by decide +kernel
theorem dX11_goneShare_5 : decode cX11_goneShare 5 = .ok (.istore_n 3, 1) := by decide +kernel
theorem dX11_goneShare_6 : decode cX11_goneShare 6 = .ok (.iload_n 3, 1) := by decide +kernel
theorem dX11_goneShare_7 : decode cX11_goneShare 7 = .ok (.aload_n 0, 1) := by decide +kernel
theorem dX11_goneShare_8 : decode cX11_goneShare 8 = .ok (.getfield 151, 3) := by decide +kernel
theorem dX11_goneShare_11 : decode cX11_goneShare 11 = .ok (.if_icmp .ge 52, 3) := by decide +kernel
theorem dX11_goneShare_14 : decode cX11_goneShare 14 = .ok (.iload_n 2, 1) := by decide +kernel
theorem dX11_goneShare_15 : decode cX11_goneShare 15 = .ok (.aload_n 0, 1) := by decide +kernel
theorem dX11_goneShare_16 : decode cX11_goneShare 16 = .ok (.getfield 28, 3) := by decide +kernel
theorem dX11_goneShare_19 : decode cX11_goneShare 19 = .ok (.iload_n 3, 1) := by decide +kernel
theorem dX11_goneShare_20 : decode cX11_goneShare 20 = .ok (.baload, 1) := by decide +kernel
theorem dX11_goneShare_21 : decode cX11_goneShare 21 = .ok (.ifCond .eq 7, 3) := by decide +kernel
theorem dX11_goneShare_24 : decode cX11_goneShare 24 = .ok (.iconst 1, 1) := by decide +kernel
theorem dX11_goneShare_25 : decode cX11_goneShare 25 = .ok (.goto 4, 3) := by decide +kernel
theorem dX11_goneShare_28 : decode cX11_goneShare 28 = .ok (.iconst 0, 1) := by decide +kernel
theorem dX11_goneShare_29 : decode cX11_goneShare 29 = .ok (.iadd, 1) := by decide +kernel
theorem dX11_goneShare_30 : decode cX11_goneShare 30 = .ok (.istore_n 2, 1) := by decide +kernel
theorem dX11_goneShare_31 : decode cX11_goneShare 31 = .ok (.iload_n 1, 1) := by decide +kernel
theorem dX11_goneShare_32 : decode cX11_goneShare 32 = .ok (.aload_n 0, 1) := by decide +kernel
theorem dX11_goneShare_33 : decode cX11_goneShare 33 = .ok (.getfield 28, 3) := by decide +kernel
theorem dX11_goneShare_36 : decode cX11_goneShare 36 = .ok (.iload_n 3, 1) := by decide +kernel
theorem dX11_goneShare_37 : decode cX11_goneShare 37 = .ok (.baload, 1) := by decide +kernel
theorem dX11_goneShare_38 : decode cX11_goneShare 38 = .ok (.ifCond .eq 16, 3) := by decide +kernel
theorem dX11_goneShare_41 : decode cX11_goneShare 41 = .ok (.aload_n 0, 1) := by decide +kernel
theorem dX11_goneShare_42 : decode cX11_goneShare 42 = .ok (.getfield 32, 3) := by decide +kernel
theorem dX11_goneShare_45 : decode cX11_goneShare 45 = .ok (.iload_n 3, 1) := by decide +kernel
theorem dX11_goneShare_46 : decode cX11_goneShare 46 = .ok (.baload, 1) := by decide +kernel
theorem dX11_goneShare_47 : decode cX11_goneShare 47 = .ok (.ifCond .eq 7, 3) := by decide +kernel
theorem dX11_goneShare_50 : decode cX11_goneShare 50 = .ok (.iconst 1, 1) := by decide +kernel
theorem dX11_goneShare_51 : decode cX11_goneShare 51 = .ok (.goto 4, 3) := by decide +kernel
theorem dX11_goneShare_54 : decode cX11_goneShare 54 = .ok (.iconst 0, 1) := by decide +kernel
theorem dX11_goneShare_55 : decode cX11_goneShare 55 = .ok (.iadd, 1) := by decide +kernel
theorem dX11_goneShare_56 : decode cX11_goneShare 56 = .ok (.istore_n 1, 1) := by decide +kernel
theorem dX11_goneShare_57 : decode cX11_goneShare 57 = .ok (.iinc 3 1, 3) := by decide +kernel
theorem dX11_goneShare_60 : decode cX11_goneShare 60 = .ok (.goto (-54), 3) := by decide +kernel
theorem dX11_goneShare_63 : decode cX11_goneShare 63 = .ok (.aload_n 0, 1) := by decide +kernel
theorem dX11_goneShare_64 : decode cX11_goneShare 64 = .ok (.iload_n 2, 1) := by decide +kernel
theorem dX11_goneShare_65 : decode cX11_goneShare 65 = .ok (.ifCond .ne 7, 3) := by decide +kernel
theorem dX11_goneShare_68 : decode cX11_goneShare 68 = .ok (.iconst 1, 1) := by decide +kernel
theorem dX11_goneShare_69 : decode cX11_goneShare 69 = .ok (.goto 4, 3) := by decide +kernel
theorem dX11_goneShare_72 : decode cX11_goneShare 72 = .ok (.iconst 0, 1) := by decide +kernel
theorem dX11_goneShare_73 : decode cX11_goneShare 73 = .ok (.putfield 138, 3) := by decide +kernel
theorem dX11_goneShare_76 : decode cX11_goneShare 76 = .ok (.aload_n 0, 1) := by decide +kernel
theorem dX11_goneShare_77 : decode cX11_goneShare 77 = .ok (.getfield 138, 3) := by decide +kernel
theorem dX11_goneShare_80 : decode cX11_goneShare 80 = .ok (.ifCond .le 7, 3) := by decide +kernel
theorem dX11_goneShare_83 : decode cX11_goneShare 83 = .ok (.fconst 0, 1) := by decide +kernel
theorem dX11_goneShare_84 : decode cX11_goneShare 84 = .ok (.goto 8, 3) := by decide +kernel
theorem dX11_goneShare_87 : decode cX11_goneShare 87 = .ok (.iload_n 1, 1) := by decide +kernel
theorem dX11_goneShare_88 : decode cX11_goneShare 88 = .ok (.i2f, 1) := by decide +kernel
theorem dX11_goneShare_89 : decode cX11_goneShare 89 = .ok (.iload_n 2, 1) := by decide +kernel
theorem dX11_goneShare_90 : decode cX11_goneShare 90 = .ok (.i2f, 1) := by decide +kernel
theorem dX11_goneShare_91 : decode cX11_goneShare 91 = .ok (.fdiv, 1) := by decide +kernel
theorem dX11_goneShare_92 : decode cX11_goneShare 92 = .ok (.freturn, 1) := by decide +kernel
theorem dX11_meanSize_0 : decode cX11_meanSize 0 = .ok (.iconst 0, 1) := by decide +kernel
theorem dX11_meanSize_1 : decode cX11_meanSize 1 = .ok (.istore_n 2, 1) := by decide +kernel
theorem dX11_meanSize_2 : decode cX11_meanSize 2 = .ok (.iconst 0, 1) := by decide +kernel
theorem dX11_meanSize_3 : decode cX11_meanSize 3 = .ok (.istore_n 3, 1) := by decide +kernel
theorem dX11_meanSize_4 : decode cX11_meanSize 4 = .ok (.iconst 0, 1) := by decide +kernel
theorem dX11_meanSize_5 : decode cX11_meanSize 5 = .ok (.istore 4, 2) := by decide +kernel
theorem dX11_meanSize_7 : decode cX11_meanSize 7 = .ok (.iload 4, 2) := by decide +kernel
theorem dX11_meanSize_9 : decode cX11_meanSize 9 = .ok (.aload_n 0, 1) := by decide +kernel
theorem dX11_meanSize_10 : decode cX11_meanSize 10 = .ok (.getfield 151, 3) := by decide +kernel
theorem dX11_meanSize_13 : decode cX11_meanSize 13 = .ok (.if_icmp .ge 51, 3) := by decide +kernel
theorem dX11_meanSize_16 : decode cX11_meanSize 16 = .ok (.iload_n 2, 1) := by decide +kernel
theorem dX11_meanSize_17 : decode cX11_meanSize 17 = .ok (.aload_n 0, 1) := by decide +kernel
theorem dX11_meanSize_18 : decode cX11_meanSize 18 = .ok (.iload 4, 2) := by decide +kernel
theorem dX11_meanSize_20 : decode cX11_meanSize 20 = .ok (.iload_n 1, 1) := by decide +kernel
theorem dX11_meanSize_21 : decode cX11_meanSize 21 = .ok (.invokevirtual 157, 3) := by decide +kernel
theorem dX11_meanSize_24 : decode cX11_meanSize 24 = .ok (.ifCond .eq 7, 3) := by decide +kernel
theorem dX11_meanSize_27 : decode cX11_meanSize 27 = .ok (.iconst 1, 1) := by decide +kernel
theorem dX11_meanSize_28 : decode cX11_meanSize 28 = .ok (.goto 4, 3) := by decide +kernel
theorem dX11_meanSize_31 : decode cX11_meanSize 31 = .ok (.iconst 0, 1) := by decide +kernel
theorem dX11_meanSize_32 : decode cX11_meanSize 32 = .ok (.iadd, 1) := by decide +kernel
theorem dX11_meanSize_33 : decode cX11_meanSize 33 = .ok (.istore_n 2, 1) := by decide +kernel
theorem dX11_meanSize_34 : decode cX11_meanSize 34 = .ok (.iload_n 3, 1) := by decide +kernel
theorem dX11_meanSize_35 : decode cX11_meanSize 35 = .ok (.aload_n 0, 1) := by decide +kernel
theorem dX11_meanSize_36 : decode cX11_meanSize 36 = .ok (.iload 4, 2) := by decide +kernel
theorem dX11_meanSize_38 : decode cX11_meanSize 38 = .ok (.iload_n 1, 1) := by decide +kernel
theorem dX11_meanSize_39 : decode cX11_meanSize 39 = .ok (.invokevirtual 157, 3) := by decide +kernel
theorem dX11_meanSize_42 : decode cX11_meanSize 42 = .ok (.ifCond .eq 13, 3) := by decide +kernel
theorem dX11_meanSize_45 : decode cX11_meanSize 45 = .ok (.aload_n 0, 1) := by decide +kernel
theorem dX11_meanSize_46 : decode cX11_meanSize 46 = .ok (.getfield 22, 3) := by decide +kernel
theorem dX11_meanSize_49 : decode cX11_meanSize 49 = .ok (.iload 4, 2) := by decide +kernel
theorem dX11_meanSize_51 : decode cX11_meanSize 51 = .ok (.iaload, 1) := by decide +kernel
theorem dX11_meanSize_52 : decode cX11_meanSize 52 = .ok (.goto 4, 3) := by decide +kernel
theorem dX11_meanSize_55 : decode cX11_meanSize 55 = .ok (.iconst 0, 1) := by decide +kernel
theorem dX11_meanSize_56 : decode cX11_meanSize 56 = .ok (.iadd, 1) := by decide +kernel
theorem dX11_meanSize_57 : decode cX11_meanSize 57 = .ok (.istore_n 3, 1) := by decide +kernel
theorem dX11_meanSize_58 : decode cX11_meanSize 58 = .ok (.iinc 4 1, 3) := by decide +kernel
theorem dX11_meanSize_61 : decode cX11_meanSize 61 = .ok (.goto (-54), 3) := by decide +kernel
theorem dX11_meanSize_64 : decode cX11_meanSize 64 = .ok (.aload_n 0, 1) := by decide +kernel
theorem dX11_meanSize_65 : decode cX11_meanSize 65 = .ok (.iload_n 1, 1) := by decide +kernel
theorem dX11_meanSize_66 : decode cX11_meanSize 66 = .ok (.iconst 0, 1) := by decide +kernel
theorem dX11_meanSize_67 : decode cX11_meanSize 67 = .ok (.bipush 7, 2) := by decide +kernel
theorem dX11_meanSize_69 : decode cX11_meanSize 69 = .ok (.invokestatic 142, 3) := by decide +kernel
theorem dX11_meanSize_72 : decode cX11_meanSize 72 = .ok (.ifCond .ne 7, 3) := by decide +kernel
theorem dX11_meanSize_75 : decode cX11_meanSize 75 = .ok (.iconst 1, 1) := by decide +kernel
theorem dX11_meanSize_76 : decode cX11_meanSize 76 = .ok (.goto 12, 3) := by decide +kernel
theorem dX11_meanSize_79 : decode cX11_meanSize 79 = .ok (.iload_n 2, 1) := by decide +kernel
theorem dX11_meanSize_80 : decode cX11_meanSize 80 = .ok (.ifCond .ne 7, 3) := by decide +kernel
theorem dX11_meanSize_83 : decode cX11_meanSize 83 = .ok (.iconst 2, 1) := by decide +kernel
theorem dX11_meanSize_84 : decode cX11_meanSize 84 = .ok (.goto 4, 3) := by decide +kernel
theorem dX11_meanSize_87 : decode cX11_meanSize 87 = .ok (.iconst 0, 1) := by decide +kernel
theorem dX11_meanSize_88 : decode cX11_meanSize 88 = .ok (.putfield 138, 3) := by decide +kernel
theorem dX11_meanSize_91 : decode cX11_meanSize 91 = .ok (.aload_n 0, 1) := by decide +kernel
theorem dX11_meanSize_92 : decode cX11_meanSize 92 = .ok (.getfield 138, 3) := by decide +kernel
theorem dX11_meanSize_95 : decode cX11_meanSize 95 = .ok (.ifCond .le 7, 3) := by decide +kernel
theorem dX11_meanSize_98 : decode cX11_meanSize 98 = .ok (.dconst 0, 1) := by decide +kernel
theorem dX11_meanSize_99 : decode cX11_meanSize 99 = .ok (.goto 8, 3) := by decide +kernel
theorem dX11_meanSize_102 : decode cX11_meanSize 102 = .ok (.iload_n 3, 1) := by decide +kernel
theorem dX11_meanSize_103 : decode cX11_meanSize 103 = .ok (.i2d, 1) := by decide +kernel
theorem dX11_meanSize_104 : decode cX11_meanSize 104 = .ok (.iload_n 2, 1) := by decide +kernel
theorem dX11_meanSize_105 : decode cX11_meanSize 105 = .ok (.i2d, 1) := by decide +kernel
theorem dX11_meanSize_106 : decode cX11_meanSize 106 = .ok (.ddiv, 1) := by decide +kernel
theorem dX11_meanSize_107 : decode cX11_meanSize 107 = .ok (.dreturn, 1) := by decide +kernel
theorem dX11_isTrue_0 : decode cX11_isTrue 0 = .ok (.aload_n 0, 1) := by decide +kernel
theorem dX11_isTrue_1 : decode cX11_isTrue 1 = .ok (.iconst 0, 1) := by decide +kernel
theorem dX11_isTrue_2 : decode cX11_isTrue 2 = .ok (.putfield 138, 3) := by decide +kernel
theorem dX11_isTrue_5 : decode cX11_isTrue 5 = .ok (.iconst 1, 1) := by decide +kernel
theorem dX11_isTrue_6 : decode cX11_isTrue 6 = .ok (.ireturn, 1) := by decide +kernel
theorem dJx00060_init_a7421_0 : decode cJx00060_init_a7421 0 = .ok (.aload_n 0, 1) := by decide +kernel
theorem dJx00060_init_a7421_1 : decode cJx00060_init_a7421 1 = .ok (.aload_n 1, 1) := by decide +kernel
theorem dJx00060_init_a7421_2 : decode cJx00060_init_a7421 2 = .ok (.invokespecial 7, 3) := by decide +kernel
theorem dJx00060_init_a7421_5 : decode cJx00060_init_a7421 5 = .ok (.return_, 1) := by decide +kernel
theorem dJ6_bitCount_0f7a4_0 : decode cJ6_bitCount_0f7a4 0 = .ok (.iload_n 0, 1) := by decide +kernel
theorem dJ6_bitCount_0f7a4_1 : decode cJ6_bitCount_0f7a4 1 = .ok (.iload_n 0, 1) := by decide +kernel
theorem dJ6_bitCount_0f7a4_2 : decode cJ6_bitCount_0f7a4 2 = .ok (.iconst 1, 1) := by decide +kernel
theorem dJ6_bitCount_0f7a4_3 : decode cJ6_bitCount_0f7a4 3 = .ok (.iushr, 1) := by decide +kernel
theorem dJ6_bitCount_0f7a4_4 : decode cJ6_bitCount_0f7a4 4 = .ok (.ldc_w 265, 3) := by decide +kernel
theorem dJ6_bitCount_0f7a4_7 : decode cJ6_bitCount_0f7a4 7 = .ok (.iand, 1) := by decide +kernel
theorem dJ6_bitCount_0f7a4_8 : decode cJ6_bitCount_0f7a4 8 = .ok (.isub, 1) := by decide +kernel
theorem dJ6_bitCount_0f7a4_9 : decode cJ6_bitCount_0f7a4 9 = .ok (.istore_n 0, 1) := by decide +kernel
theorem dJ6_bitCount_0f7a4_10 : decode cJ6_bitCount_0f7a4 10 = .ok (.iload_n 0, 1) := by decide +kernel
theorem dJ6_bitCount_0f7a4_11 : decode cJ6_bitCount_0f7a4 11 = .ok (.ldc_w 266, 3) := by decide +kernel
theorem dJ6_bitCount_0f7a4_14 : decode cJ6_bitCount_0f7a4 14 = .ok (.iand, 1) := by decide +kernel
theorem dJ6_bitCount_0f7a4_15 : decode cJ6_bitCount_0f7a4 15 = .ok (.iload_n 0, 1) := by decide +kernel
theorem dJ6_bitCount_0f7a4_16 : decode cJ6_bitCount_0f7a4 16 = .ok (.iconst 2, 1) := by decide +kernel
theorem dJ6_bitCount_0f7a4_17 : decode cJ6_bitCount_0f7a4 17 = .ok (.iushr, 1) := by decide +kernel
theorem dJ6_bitCount_0f7a4_18 : decode cJ6_bitCount_0f7a4 18 = .ok (.ldc_w 266, 3) := by decide +kernel
theorem dJ6_bitCount_0f7a4_21 : decode cJ6_bitCount_0f7a4 21 = .ok (.iand, 1) := by decide +kernel
theorem dJ6_bitCount_0f7a4_22 : decode cJ6_bitCount_0f7a4 22 = .ok (.iadd, 1) := by decide +kernel
theorem dJ6_bitCount_0f7a4_23 : decode cJ6_bitCount_0f7a4 23 = .ok (.istore_n 0, 1) := by decide +kernel
theorem dJ6_bitCount_0f7a4_24 : decode cJ6_bitCount_0f7a4 24 = .ok (.iload_n 0, 1) := by decide +kernel
theorem dJ6_bitCount_0f7a4_25 : decode cJ6_bitCount_0f7a4 25 = .ok (.iload_n 0, 1) := by decide +kernel
theorem dJ6_bitCount_0f7a4_26 : decode cJ6_bitCount_0f7a4 26 = .ok (.iconst 4, 1) := by decide +kernel
theorem dJ6_bitCount_0f7a4_27 : decode cJ6_bitCount_0f7a4 27 = .ok (.iushr, 1) := by decide +kernel
theorem dJ6_bitCount_0f7a4_28 : decode cJ6_bitCount_0f7a4 28 = .ok (.iadd, 1) := by decide +kernel
theorem dJ6_bitCount_0f7a4_29 : decode cJ6_bitCount_0f7a4 29 = .ok (.ldc_w 267, 3) := by decide +kernel
theorem dJ6_bitCount_0f7a4_32 : decode cJ6_bitCount_0f7a4 32 = .ok (.iand, 1) := by decide +kernel
theorem dJ6_bitCount_0f7a4_33 : decode cJ6_bitCount_0f7a4 33 = .ok (.istore_n 0, 1) := by decide +kernel
theorem dJ6_bitCount_0f7a4_34 : decode cJ6_bitCount_0f7a4 34 = .ok (.iload_n 0, 1) := by decide +kernel
theorem dJ6_bitCount_0f7a4_35 : decode cJ6_bitCount_0f7a4 35 = .ok (.iload_n 0, 1) := by decide +kernel
theorem dJ6_bitCount_0f7a4_36 : decode cJ6_bitCount_0f7a4 36 = .ok (.bipush 8, 2) := by decide +kernel
theorem dJ6_bitCount_0f7a4_38 : decode cJ6_bitCount_0f7a4 38 = .ok (.iushr, 1) := by decide +kernel
theorem dJ6_bitCount_0f7a4_39 : decode cJ6_bitCount_0f7a4 39 = .ok (.iadd, 1) := by decide +kernel
theorem dJ6_bitCount_0f7a4_40 : decode cJ6_bitCount_0f7a4 40 = .ok (.istore_n 0, 1) := by decide +kernel
theorem dJ6_bitCount_0f7a4_41 : decode cJ6_bitCount_0f7a4 41 = .ok (.iload_n 0, 1) := by decide +kernel
theorem dJ6_bitCount_0f7a4_42 : decode cJ6_bitCount_0f7a4 42 = .ok (.iload_n 0, 1) := by decide +kernel
theorem dJ6_bitCount_0f7a4_43 : decode cJ6_bitCount_0f7a4 43 = .ok (.bipush 16, 2) := by decide +kernel
theorem dJ6_bitCount_0f7a4_45 : decode cJ6_bitCount_0f7a4 45 = .ok (.iushr, 1) := by decide +kernel
theorem dJ6_bitCount_0f7a4_46 : decode cJ6_bitCount_0f7a4 46 = .ok (.iadd, 1) := by decide +kernel
theorem dJ6_bitCount_0f7a4_47 : decode cJ6_bitCount_0f7a4 47 = .ok (.istore_n 0, 1) := by decide +kernel
theorem dJ6_bitCount_0f7a4_48 : decode cJ6_bitCount_0f7a4 48 = .ok (.iload_n 0, 1) := by decide +kernel
theorem dJ6_bitCount_0f7a4_49 : decode cJ6_bitCount_0f7a4 49 = .ok (.bipush 63, 2) := by decide +kernel
theorem dJ6_bitCount_0f7a4_51 : decode cJ6_bitCount_0f7a4 51 = .ok (.iand, 1) := by decide +kernel
theorem dJ6_bitCount_0f7a4_52 : decode cJ6_bitCount_0f7a4 52 = .ok (.ireturn, 1) := by decide +kernel
theorem dJ9_max_7cf53_0 : decode cJ9_max_7cf53 0 = .ok (.iload_n 0, 1) := by decide +kernel
theorem dJ9_max_7cf53_1 : decode cJ9_max_7cf53 1 = .ok (.iload_n 1, 1) := by decide +kernel
theorem dJ9_max_7cf53_2 : decode cJ9_max_7cf53 2 = .ok (.if_icmp .lt 7, 3) := by decide +kernel
theorem dJ9_max_7cf53_5 : decode cJ9_max_7cf53 5 = .ok (.iload_n 0, 1) := by decide +kernel
theorem dJ9_max_7cf53_6 : decode cJ9_max_7cf53 6 = .ok (.goto 4, 3) := by decide +kernel
theorem dJ9_max_7cf53_9 : decode cJ9_max_7cf53 9 = .ok (.iload_n 1, 1) := by decide +kernel
theorem dJ9_max_7cf53_10 : decode cJ9_max_7cf53 10 = .ok (.ireturn, 1) := by decide +kernel
theorem dJ9_min_7cf53_0 : decode cJ9_min_7cf53 0 = .ok (.iload_n 0, 1) := by decide +kernel
theorem dJ9_min_7cf53_1 : decode cJ9_min_7cf53 1 = .ok (.iload_n 1, 1) := by decide +kernel
theorem dJ9_min_7cf53_2 : decode cJ9_min_7cf53 2 = .ok (.if_icmp .gt 7, 3) := by decide +kernel
theorem dJ9_min_7cf53_5 : decode cJ9_min_7cf53 5 = .ok (.iload_n 0, 1) := by decide +kernel
theorem dJ9_min_7cf53_6 : decode cJ9_min_7cf53 6 = .ok (.goto 4, 3) := by decide +kernel
theorem dJ9_min_7cf53_9 : decode cJ9_min_7cf53 9 = .ok (.iload_n 1, 1) := by decide +kernel
theorem dJ9_min_7cf53_10 : decode cJ9_min_7cf53 10 = .ok (.ireturn, 1) := by decide +kernel
theorem dL_mail_0 : decode cL_mail 0 = .ok (.aload 6, 2) := by decide +kernel
theorem dL_mail_2 : decode cL_mail 2 = .ok (.iconst 0, 1) := by decide +kernel
theorem dL_mail_3 : decode cL_mail 3 = .ok (.aload_n 0, 1) := by decide +kernel
theorem dL_mail_4 : decode cL_mail 4 = .ok (.iload_n 1, 1) := by decide +kernel
theorem dL_mail_5 : decode cL_mail 5 = .ok (.iload_n 2, 1) := by decide +kernel
theorem dL_mail_6 : decode cL_mail 6 = .ok (.iload_n 3, 1) := by decide +kernel
theorem dL_mail_7 : decode cL_mail 7 = .ok (.iload 4, 2) := by decide +kernel
theorem dL_mail_9 : decode cL_mail 9 = .ok (.iload 5, 2) := by decide +kernel
theorem dL_mail_11 : decode cL_mail 11 = .ok (.invokevirtual 7, 3) := by decide +kernel
theorem dL_mail_14 : decode cL_mail 14 = .ok (.i2l, 1) := by decide +kernel
theorem dL_mail_15 : decode cL_mail 15 = .ok (.lastore, 1) := by decide +kernel
theorem dL_mail_16 : decode cL_mail 16 = .ok (.goto 11, 3) := by decide +kernel
theorem dL_mail_19 : decode cL_mail 19 = .ok (.astore 7, 2) := by decide +kernel
theorem dL_mail_21 : decode cL_mail 21 = .ok (.iconst 1, 1) := by decide +kernel
theorem dL_mail_22 : decode cL_mail 22 = .ok (.ireturn, 1) := by decide +kernel
theorem dL_mail_23 : decode cL_mail 23 = .ok (.astore 7, 2) := by decide +kernel
theorem dL_mail_25 : decode cL_mail 25 = .ok (.iconst 2, 1) := by decide +kernel
theorem dL_mail_26 : decode cL_mail 26 = .ok (.ireturn, 1) := by decide +kernel
theorem dL_mail_27 : decode cL_mail 27 = .ok (.iconst 0, 1) := by decide +kernel
theorem dL_mail_28 : decode cL_mail 28 = .ok (.ireturn, 1) := by decide +kernel
theorem dL_pass_0 : decode cL_pass 0 = .ok (.aload_n 2, 1) := by decide +kernel
theorem dL_pass_1 : decode cL_pass 1 = .ok (.iconst 0, 1) := by decide +kernel
theorem dL_pass_2 : decode cL_pass 2 = .ok (.aload_n 0, 1) := by decide +kernel
theorem dL_pass_3 : decode cL_pass 3 = .ok (.iload_n 1, 1) := by decide +kernel
theorem dL_pass_4 : decode cL_pass 4 = .ok (.invokevirtual 17, 3) := by decide +kernel
theorem dL_pass_7 : decode cL_pass 7 = .ok (.i2l, 1) := by decide +kernel
theorem dL_pass_8 : decode cL_pass 8 = .ok (.lastore, 1) := by decide +kernel
theorem dL_pass_9 : decode cL_pass 9 = .ok (.goto 6, 3) := by decide +kernel
theorem dL_pass_12 : decode cL_pass 12 = .ok (.astore_n 3, 1) := by decide +kernel
theorem dL_pass_13 : decode cL_pass 13 = .ok (.iconst 1, 1) := by decide +kernel
theorem dL_pass_14 : decode cL_pass 14 = .ok (.ireturn, 1) := by decide +kernel
theorem dL_pass_15 : decode cL_pass 15 = .ok (.iconst 0, 1) := by decide +kernel
theorem dL_pass_16 : decode cL_pass 16 = .ok (.ireturn, 1) := by decide +kernel
theorem dL_setQuota_0 : decode cL_setQuota 0 = .ok (.aload_n 3, 1) := by decide +kernel
theorem dL_setQuota_1 : decode cL_setQuota 1 = .ok (.iconst 0, 1) := by decide +kernel
theorem dL_setQuota_2 : decode cL_setQuota 2 = .ok (.aload_n 0, 1) := by decide +kernel
theorem dL_setQuota_3 : decode cL_setQuota 3 = .ok (.iload_n 1, 1) := by decide +kernel
theorem dL_setQuota_4 : decode cL_setQuota 4 = .ok (.iload_n 2, 1) := by decide +kernel
theorem dL_setQuota_5 : decode cL_setQuota 5 = .ok (.invokevirtual 21, 3) := by decide +kernel
theorem dL_setQuota_8 : decode cL_setQuota 8 = .ok (.i2l, 1) := by decide +kernel
theorem dL_setQuota_9 : decode cL_setQuota 9 = .ok (.lastore, 1) := by decide +kernel
theorem dL_setQuota_10 : decode cL_setQuota 10 = .ok (.goto 11, 3) := by decide +kernel
theorem dL_setQuota_13 : decode cL_setQuota 13 = .ok (.astore 4, 2) := by decide +kernel
theorem dL_setQuota_15 : decode cL_setQuota 15 = .ok (.iconst 1, 1) := by decide +kernel
theorem dL_setQuota_16 : decode cL_setQuota 16 = .ok (.ireturn, 1) := by decide +kernel
theorem dL_setQuota_17 : decode cL_setQuota 17 = .ok (.astore 4, 2) := by decide +kernel
theorem dL_setQuota_19 : decode cL_setQuota 19 = .ok (.iconst 2, 1) := by decide +kernel
theorem dL_setQuota_20 : decode cL_setQuota 20 = .ok (.ireturn, 1) := by decide +kernel
theorem dL_setQuota_21 : decode cL_setQuota 21 = .ok (.iconst 0, 1) := by decide +kernel
theorem dL_setQuota_22 : decode cL_setQuota 22 = .ok (.ireturn, 1) := by decide +kernel
theorem dL_inBox_0 : decode cL_inBox 0 = .ok (.aload_n 2, 1) := by decide +kernel
theorem dL_inBox_1 : decode cL_inBox 1 = .ok (.iconst 0, 1) := by decide +kernel
theorem dL_inBox_2 : decode cL_inBox 2 = .ok (.aload_n 0, 1) := by decide +kernel
theorem dL_inBox_3 : decode cL_inBox 3 = .ok (.iload_n 1, 1) := by decide +kernel
theorem dL_inBox_4 : decode cL_inBox 4 = .ok (.invokevirtual 27, 3) := by decide +kernel
theorem dL_inBox_7 : decode cL_inBox 7 = .ok (.i2l, 1) := by decide +kernel
theorem dL_inBox_8 : decode cL_inBox 8 = .ok (.lastore, 1) := by decide +kernel
theorem dL_inBox_9 : decode cL_inBox 9 = .ok (.goto 6, 3) := by decide +kernel
theorem dL_inBox_12 : decode cL_inBox 12 = .ok (.astore_n 3, 1) := by decide +kernel
theorem dL_inBox_13 : decode cL_inBox 13 = .ok (.iconst 1, 1) := by decide +kernel
theorem dL_inBox_14 : decode cL_inBox 14 = .ok (.ireturn, 1) := by decide +kernel
theorem dL_inBox_15 : decode cL_inBox 15 = .ok (.iconst 0, 1) := by decide +kernel
theorem dL_inBox_16 : decode cL_inBox 16 = .ok (.ireturn, 1) := by decide +kernel
theorem dL_boxOf_0 : decode cL_boxOf 0 = .ok (.aload_n 2, 1) := by decide +kernel
theorem dL_boxOf_1 : decode cL_boxOf 1 = .ok (.iconst 0, 1) := by decide +kernel
theorem dL_boxOf_2 : decode cL_boxOf 2 = .ok (.aload_n 0, 1) := by decide +kernel
theorem dL_boxOf_3 : decode cL_boxOf 3 = .ok (.iload_n 1, 1) := by decide +kernel
theorem dL_boxOf_4 : decode cL_boxOf 4 = .ok (.invokevirtual 30, 3) := by decide +kernel
theorem dL_boxOf_7 : decode cL_boxOf 7 = .ok (.i2l, 1) := by decide +kernel
theorem dL_boxOf_8 : decode cL_boxOf 8 = .ok (.lastore, 1) := by decide +kernel
theorem dL_boxOf_9 : decode cL_boxOf 9 = .ok (.goto 9, 3) := by decide +kernel
theorem dL_boxOf_12 : decode cL_boxOf 12 = .ok (.astore_n 3, 1) := by decide +kernel
theorem dL_boxOf_13 : decode cL_boxOf 13 = .ok (.iconst 1, 1) := by decide +kernel
theorem dL_boxOf_14 : decode cL_boxOf 14 = .ok (.ireturn, 1) := by decide +kernel
theorem dL_boxOf_15 : decode cL_boxOf 15 = .ok (.astore_n 3, 1) := by decide +kernel
theorem dL_boxOf_16 : decode cL_boxOf 16 = .ok (.iconst 2, 1) := by decide +kernel
theorem dL_boxOf_17 : decode cL_boxOf 17 = .ok (.ireturn, 1) := by decide +kernel
theorem dL_boxOf_18 : decode cL_boxOf 18 = .ok (.iconst 0, 1) := by decide +kernel
theorem dL_boxOf_19 : decode cL_boxOf 19 = .ok (.ireturn, 1) := by decide +kernel
theorem dL_hasFlag_0 : decode cL_hasFlag 0 = .ok (.aload_n 3, 1) := by decide +kernel
theorem dL_hasFlag_1 : decode cL_hasFlag 1 = .ok (.iconst 0, 1) := by decide +kernel
theorem dL_hasFlag_2 : decode cL_hasFlag 2 = .ok (.aload_n 0, 1) := by decide +kernel
theorem dL_hasFlag_3 : decode cL_hasFlag 3 = .ok (.iload_n 1, 1) := by decide +kernel
theorem dL_hasFlag_4 : decode cL_hasFlag 4 = .ok (.iload_n 2, 1) := by decide +kernel
theorem dL_hasFlag_5 : decode cL_hasFlag 5 = .ok (.invokevirtual 35, 3) := by decide +kernel
theorem dL_hasFlag_8 : decode cL_hasFlag 8 = .ok (.ifCond .eq 7, 3) := by decide +kernel
theorem dL_hasFlag_11 : decode cL_hasFlag 11 = .ok (.lconst 1, 1) := by decide +kernel
theorem dL_hasFlag_12 : decode cL_hasFlag 12 = .ok (.goto 4, 3) := by decide +kernel
theorem dL_hasFlag_15 : decode cL_hasFlag 15 = .ok (.lconst 0, 1) := by decide +kernel
theorem dL_hasFlag_16 : decode cL_hasFlag 16 = .ok (.lastore, 1) := by decide +kernel
theorem dL_hasFlag_17 : decode cL_hasFlag 17 = .ok (.goto 7, 3) := by decide +kernel
theorem dL_hasFlag_20 : decode cL_hasFlag 20 = .ok (.astore 4, 2) := by decide +kernel
theorem dL_hasFlag_22 : decode cL_hasFlag 22 = .ok (.iconst 1, 1) := by decide +kernel
theorem dL_hasFlag_23 : decode cL_hasFlag 23 = .ok (.ireturn, 1) := by decide +kernel
theorem dL_hasFlag_24 : decode cL_hasFlag 24 = .ok (.iconst 0, 1) := by decide +kernel
theorem dL_hasFlag_25 : decode cL_hasFlag 25 = .ok (.ireturn, 1) := by decide +kernel
theorem dL_move_0 : decode cL_move 0 = .ok (.aload_n 3, 1) := by decide +kernel
theorem dL_move_1 : decode cL_move 1 = .ok (.iconst 0, 1) := by decide +kernel
theorem dL_move_2 : decode cL_move 2 = .ok (.aload_n 0, 1) := by decide +kernel
theorem dL_move_3 : decode cL_move 3 = .ok (.iload_n 1, 1) := by decide +kernel
theorem dL_move_4 : decode cL_move 4 = .ok (.iload_n 2, 1) := by decide +kernel
theorem dL_move_5 : decode cL_move 5 = .ok (.invokevirtual 39, 3) := by decide +kernel
theorem dL_move_8 : decode cL_move 8 = .ok (.i2l, 1) := by decide +kernel
theorem dL_move_9 : decode cL_move 9 = .ok (.lastore, 1) := by decide +kernel
theorem dL_move_10 : decode cL_move 10 = .ok (.goto 11, 3) := by decide +kernel
theorem dL_move_13 : decode cL_move 13 = .ok (.astore 4, 2) := by decide +kernel
theorem dL_move_15 : decode cL_move 15 = .ok (.iconst 1, 1) := by decide +kernel
theorem dL_move_16 : decode cL_move 16 = .ok (.ireturn, 1) := by decide +kernel
theorem dL_move_17 : decode cL_move 17 = .ok (.astore 4, 2) := by decide +kernel
theorem dL_move_19 : decode cL_move 19 = .ok (.iconst 2, 1) := by decide +kernel
theorem dL_move_20 : decode cL_move 20 = .ok (.ireturn, 1) := by decide +kernel
theorem dL_move_21 : decode cL_move 21 = .ok (.iconst 0, 1) := by decide +kernel
theorem dL_move_22 : decode cL_move 22 = .ok (.ireturn, 1) := by decide +kernel
theorem dL_test_0 : decode cL_test 0 = .ok (.aload 4, 2) := by decide +kernel
theorem dL_test_2 : decode cL_test 2 = .ok (.iconst 0, 1) := by decide +kernel
theorem dL_test_3 : decode cL_test 3 = .ok (.aload_n 0, 1) := by decide +kernel
theorem dL_test_4 : decode cL_test 4 = .ok (.iload_n 1, 1) := by decide +kernel
theorem dL_test_5 : decode cL_test 5 = .ok (.iload_n 2, 1) := by decide +kernel
theorem dL_test_6 : decode cL_test 6 = .ok (.iload_n 3, 1) := by decide +kernel
theorem dL_test_7 : decode cL_test 7 = .ok (.invokevirtual 42, 3) := by decide +kernel
theorem dL_test_10 : decode cL_test 10 = .ok (.i2l, 1) := by decide +kernel
theorem dL_test_11 : decode cL_test 11 = .ok (.lastore, 1) := by decide +kernel
theorem dL_test_12 : decode cL_test 12 = .ok (.goto 15, 3) := by decide +kernel
theorem dL_test_15 : decode cL_test 15 = .ok (.astore 5, 2) := by decide +kernel
theorem dL_test_17 : decode cL_test 17 = .ok (.iconst 1, 1) := by decide +kernel
theorem dL_test_18 : decode cL_test 18 = .ok (.ireturn, 1) := by decide +kernel
theorem dL_test_19 : decode cL_test 19 = .ok (.astore 5, 2) := by decide +kernel
theorem dL_test_21 : decode cL_test 21 = .ok (.iconst 2, 1) := by decide +kernel
theorem dL_test_22 : decode cL_test 22 = .ok (.ireturn, 1) := by decide +kernel
theorem dL_test_23 : decode cL_test 23 = .ok (.astore 5, 2) := by decide +kernel
theorem dL_test_25 : decode cL_test 25 = .ok (.iconst 3, 1) := by decide +kernel
theorem dL_test_26 : decode cL_test 26 = .ok (.ireturn, 1) := by decide +kernel
theorem dL_test_27 : decode cL_test 27 = .ok (.iconst 0, 1) := by decide +kernel
theorem dL_test_28 : decode cL_test 28 = .ok (.ireturn, 1) := by decide +kernel
theorem dL_holds_0 : decode cL_holds 0 = .ok (.aload_n 3, 1) := by decide +kernel
theorem dL_holds_1 : decode cL_holds 1 = .ok (.iconst 0, 1) := by decide +kernel
theorem dL_holds_2 : decode cL_holds 2 = .ok (.aload_n 0, 1) := by decide +kernel
theorem dL_holds_3 : decode cL_holds 3 = .ok (.iload_n 1, 1) := by decide +kernel
theorem dL_holds_4 : decode cL_holds 4 = .ok (.iload_n 2, 1) := by decide +kernel
theorem dL_holds_5 : decode cL_holds 5 = .ok (.invokevirtual 46, 3) := by decide +kernel
theorem dL_holds_8 : decode cL_holds 8 = .ok (.ifCond .eq 7, 3) := by decide +kernel
theorem dL_holds_11 : decode cL_holds 11 = .ok (.lconst 1, 1) := by decide +kernel
theorem dL_holds_12 : decode cL_holds 12 = .ok (.goto 4, 3) := by decide +kernel
theorem dL_holds_15 : decode cL_holds 15 = .ok (.lconst 0, 1) := by decide +kernel
theorem dL_holds_16 : decode cL_holds 16 = .ok (.lastore, 1) := by decide +kernel
theorem dL_holds_17 : decode cL_holds 17 = .ok (.goto 7, 3) := by decide +kernel
theorem dL_holds_20 : decode cL_holds 20 = .ok (.astore 4, 2) := by decide +kernel
theorem dL_holds_22 : decode cL_holds 22 = .ok (.iconst 1, 1) := by decide +kernel
theorem dL_holds_23 : decode cL_holds 23 = .ok (.ireturn, 1) := by decide +kernel
theorem dL_holds_24 : decode cL_holds 24 = .ok (.iconst 0, 1) := by decide +kernel
theorem dL_holds_25 : decode cL_holds 25 = .ok (.ireturn, 1) := by decide +kernel
theorem dL_rule_0 : decode cL_rule 0 = .ok (.aload_n 3, 1) := by decide +kernel
theorem dL_rule_1 : decode cL_rule 1 = .ok (.iconst 0, 1) := by decide +kernel
theorem dL_rule_2 : decode cL_rule 2 = .ok (.aload_n 0, 1) := by decide +kernel
theorem dL_rule_3 : decode cL_rule 3 = .ok (.iload_n 1, 1) := by decide +kernel
theorem dL_rule_4 : decode cL_rule 4 = .ok (.iload_n 2, 1) := by decide +kernel
theorem dL_rule_5 : decode cL_rule 5 = .ok (.invokevirtual 49, 3) := by decide +kernel
theorem dL_rule_8 : decode cL_rule 8 = .ok (.i2l, 1) := by decide +kernel
theorem dL_rule_9 : decode cL_rule 9 = .ok (.lastore, 1) := by decide +kernel
theorem dL_rule_10 : decode cL_rule 10 = .ok (.goto 11, 3) := by decide +kernel
theorem dL_rule_13 : decode cL_rule 13 = .ok (.astore 4, 2) := by decide +kernel
theorem dL_rule_15 : decode cL_rule 15 = .ok (.iconst 1, 1) := by decide +kernel
theorem dL_rule_16 : decode cL_rule 16 = .ok (.ireturn, 1) := by decide +kernel
theorem dL_rule_17 : decode cL_rule 17 = .ok (.astore 4, 2) := by decide +kernel
theorem dL_rule_19 : decode cL_rule 19 = .ok (.iconst 2, 1) := by decide +kernel
theorem dL_rule_20 : decode cL_rule 20 = .ok (.ireturn, 1) := by decide +kernel
theorem dL_rule_21 : decode cL_rule 21 = .ok (.iconst 0, 1) := by decide +kernel
theorem dL_rule_22 : decode cL_rule 22 = .ok (.ireturn, 1) := by decide +kernel
theorem dL_action_0 : decode cL_action 0 = .ok (.aload 5, 2) := by decide +kernel
theorem dL_action_2 : decode cL_action 2 = .ok (.iconst 0, 1) := by decide +kernel
theorem dL_action_3 : decode cL_action 3 = .ok (.aload_n 0, 1) := by decide +kernel
theorem dL_action_4 : decode cL_action 4 = .ok (.iload_n 1, 1) := by decide +kernel
theorem dL_action_5 : decode cL_action 5 = .ok (.iload_n 2, 1) := by decide +kernel
theorem dL_action_6 : decode cL_action 6 = .ok (.iload_n 3, 1) := by decide +kernel
theorem dL_action_7 : decode cL_action 7 = .ok (.iload 4, 2) := by decide +kernel
theorem dL_action_9 : decode cL_action 9 = .ok (.invokevirtual 52, 3) := by decide +kernel
theorem dL_action_12 : decode cL_action 12 = .ok (.i2l, 1) := by decide +kernel
theorem dL_action_13 : decode cL_action 13 = .ok (.lastore, 1) := by decide +kernel
theorem dL_action_14 : decode cL_action 14 = .ok (.goto 15, 3) := by decide +kernel
theorem dL_action_17 : decode cL_action 17 = .ok (.astore 6, 2) := by decide +kernel
theorem dL_action_19 : decode cL_action 19 = .ok (.iconst 1, 1) := by decide +kernel
theorem dL_action_20 : decode cL_action 20 = .ok (.ireturn, 1) := by decide +kernel
theorem dL_action_21 : decode cL_action 21 = .ok (.astore 6, 2) := by decide +kernel
theorem dL_action_23 : decode cL_action 23 = .ok (.iconst 2, 1) := by decide +kernel
theorem dL_action_24 : decode cL_action 24 = .ok (.ireturn, 1) := by decide +kernel
theorem dL_action_25 : decode cL_action 25 = .ok (.astore 6, 2) := by decide +kernel
theorem dL_action_27 : decode cL_action 27 = .ok (.iconst 3, 1) := by decide +kernel
theorem dL_action_28 : decode cL_action 28 = .ok (.ireturn, 1) := by decide +kernel
theorem dL_action_29 : decode cL_action 29 = .ok (.iconst 0, 1) := by decide +kernel
theorem dL_action_30 : decode cL_action 30 = .ok (.ireturn, 1) := by decide +kernel
theorem dL_clear_0 : decode cL_clear 0 = .ok (.aload_n 2, 1) := by decide +kernel
theorem dL_clear_1 : decode cL_clear 1 = .ok (.iconst 0, 1) := by decide +kernel
theorem dL_clear_2 : decode cL_clear 2 = .ok (.aload_n 0, 1) := by decide +kernel
theorem dL_clear_3 : decode cL_clear 3 = .ok (.iload_n 1, 1) := by decide +kernel
theorem dL_clear_4 : decode cL_clear 4 = .ok (.invokevirtual 56, 3) := by decide +kernel
theorem dL_clear_7 : decode cL_clear 7 = .ok (.i2l, 1) := by decide +kernel
theorem dL_clear_8 : decode cL_clear 8 = .ok (.lastore, 1) := by decide +kernel
theorem dL_clear_9 : decode cL_clear 9 = .ok (.goto 6, 3) := by decide +kernel
theorem dL_clear_12 : decode cL_clear 12 = .ok (.astore_n 3, 1) := by decide +kernel
theorem dL_clear_13 : decode cL_clear 13 = .ok (.iconst 1, 1) := by decide +kernel
theorem dL_clear_14 : decode cL_clear 14 = .ok (.ireturn, 1) := by decide +kernel
theorem dL_clear_15 : decode cL_clear 15 = .ok (.iconst 0, 1) := by decide +kernel
theorem dL_clear_16 : decode cL_clear 16 = .ok (.ireturn, 1) := by decide +kernel
theorem dL_reorder_0 : decode cL_reorder 0 = .ok (.aload 4, 2) := by decide +kernel
theorem dL_reorder_2 : decode cL_reorder 2 = .ok (.iconst 0, 1) := by decide +kernel
theorem dL_reorder_3 : decode cL_reorder 3 = .ok (.aload_n 0, 1) := by decide +kernel
theorem dL_reorder_4 : decode cL_reorder 4 = .ok (.iload_n 1, 1) := by decide +kernel
theorem dL_reorder_5 : decode cL_reorder 5 = .ok (.iload_n 2, 1) := by decide +kernel
theorem dL_reorder_6 : decode cL_reorder 6 = .ok (.iload_n 3, 1) := by decide +kernel
theorem dL_reorder_7 : decode cL_reorder 7 = .ok (.invokevirtual 59, 3) := by decide +kernel
theorem dL_reorder_10 : decode cL_reorder 10 = .ok (.i2l, 1) := by decide +kernel
theorem dL_reorder_11 : decode cL_reorder 11 = .ok (.lastore, 1) := by decide +kernel
theorem dL_reorder_12 : decode cL_reorder 12 = .ok (.goto 7, 3) := by decide +kernel
theorem dL_reorder_15 : decode cL_reorder 15 = .ok (.astore 5, 2) := by decide +kernel
theorem dL_reorder_17 : decode cL_reorder 17 = .ok (.iconst 1, 1) := by decide +kernel
theorem dL_reorder_18 : decode cL_reorder 18 = .ok (.ireturn, 1) := by decide +kernel
theorem dL_reorder_19 : decode cL_reorder 19 = .ok (.iconst 0, 1) := by decide +kernel
theorem dL_reorder_20 : decode cL_reorder 20 = .ok (.ireturn, 1) := by decide +kernel
theorem dL_deliver_0 : decode cL_deliver 0 = .ok (.aload_n 2, 1) := by decide +kernel
theorem dL_deliver_1 : decode cL_deliver 1 = .ok (.iconst 0, 1) := by decide +kernel
theorem dL_deliver_2 : decode cL_deliver 2 = .ok (.aload_n 0, 1) := by decide +kernel
theorem dL_deliver_3 : decode cL_deliver 3 = .ok (.iload_n 1, 1) := by decide +kernel
theorem dL_deliver_4 : decode cL_deliver 4 = .ok (.invokevirtual 63, 3) := by decide +kernel
theorem dL_deliver_7 : decode cL_deliver 7 = .ok (.i2l, 1) := by decide +kernel
theorem dL_deliver_8 : decode cL_deliver 8 = .ok (.lastore, 1) := by decide +kernel
theorem dL_deliver_9 : decode cL_deliver 9 = .ok (.goto 6, 3) := by decide +kernel
theorem dL_deliver_12 : decode cL_deliver 12 = .ok (.astore_n 3, 1) := by decide +kernel
theorem dL_deliver_13 : decode cL_deliver 13 = .ok (.iconst 1, 1) := by decide +kernel
theorem dL_deliver_14 : decode cL_deliver 14 = .ok (.ireturn, 1) := by decide +kernel
theorem dL_deliver_15 : decode cL_deliver 15 = .ok (.iconst 0, 1) := by decide +kernel
theorem dL_deliver_16 : decode cL_deliver 16 = .ok (.ireturn, 1) := by decide +kernel
theorem dL_attempt_0 : decode cL_attempt 0 = .ok (.aload_n 3, 1) := by decide +kernel
theorem dL_attempt_1 : decode cL_attempt 1 = .ok (.iconst 0, 1) := by decide +kernel
theorem dL_attempt_2 : decode cL_attempt 2 = .ok (.aload_n 0, 1) := by decide +kernel
theorem dL_attempt_3 : decode cL_attempt 3 = .ok (.iload_n 1, 1) := by decide +kernel
theorem dL_attempt_4 : decode cL_attempt 4 = .ok (.iload_n 2, 1) := by decide +kernel
theorem dL_attempt_5 : decode cL_attempt 5 = .ok (.invokevirtual 66, 3) := by decide +kernel
theorem dL_attempt_8 : decode cL_attempt 8 = .ok (.i2l, 1) := by decide +kernel
theorem dL_attempt_9 : decode cL_attempt 9 = .ok (.lastore, 1) := by decide +kernel
theorem dL_attempt_10 : decode cL_attempt 10 = .ok (.goto 7, 3) := by decide +kernel
theorem dL_attempt_13 : decode cL_attempt 13 = .ok (.astore 4, 2) := by decide +kernel
theorem dL_attempt_15 : decode cL_attempt 15 = .ok (.iconst 1, 1) := by decide +kernel
theorem dL_attempt_16 : decode cL_attempt 16 = .ok (.ireturn, 1) := by decide +kernel
theorem dL_attempt_17 : decode cL_attempt 17 = .ok (.iconst 0, 1) := by decide +kernel
theorem dL_attempt_18 : decode cL_attempt 18 = .ok (.ireturn, 1) := by decide +kernel
theorem dL_doneAt_0 : decode cL_doneAt 0 = .ok (.aload_n 2, 1) := by decide +kernel
theorem dL_doneAt_1 : decode cL_doneAt 1 = .ok (.iconst 0, 1) := by decide +kernel
theorem dL_doneAt_2 : decode cL_doneAt 2 = .ok (.aload_n 0, 1) := by decide +kernel
theorem dL_doneAt_3 : decode cL_doneAt 3 = .ok (.iload_n 1, 1) := by decide +kernel
theorem dL_doneAt_4 : decode cL_doneAt 4 = .ok (.invokevirtual 69, 3) := by decide +kernel
theorem dL_doneAt_7 : decode cL_doneAt 7 = .ok (.i2l, 1) := by decide +kernel
theorem dL_doneAt_8 : decode cL_doneAt 8 = .ok (.lastore, 1) := by decide +kernel
theorem dL_doneAt_9 : decode cL_doneAt 9 = .ok (.goto 6, 3) := by decide +kernel
theorem dL_doneAt_12 : decode cL_doneAt 12 = .ok (.astore_n 3, 1) := by decide +kernel
theorem dL_doneAt_13 : decode cL_doneAt 13 = .ok (.iconst 1, 1) := by decide +kernel
theorem dL_doneAt_14 : decode cL_doneAt 14 = .ok (.ireturn, 1) := by decide +kernel
theorem dL_doneAt_15 : decode cL_doneAt 15 = .ok (.iconst 0, 1) := by decide +kernel
theorem dL_doneAt_16 : decode cL_doneAt 16 = .ok (.ireturn, 1) := by decide +kernel
theorem dL_faults_0 : decode cL_faults 0 = .ok (.aload_n 2, 1) := by decide +kernel
theorem dL_faults_1 : decode cL_faults 1 = .ok (.iconst 0, 1) := by decide +kernel
theorem dL_faults_2 : decode cL_faults 2 = .ok (.aload_n 0, 1) := by decide +kernel
theorem dL_faults_3 : decode cL_faults 3 = .ok (.iload_n 1, 1) := by decide +kernel
theorem dL_faults_4 : decode cL_faults 4 = .ok (.invokevirtual 72, 3) := by decide +kernel
theorem dL_faults_7 : decode cL_faults 7 = .ok (.i2l, 1) := by decide +kernel
theorem dL_faults_8 : decode cL_faults 8 = .ok (.lastore, 1) := by decide +kernel
theorem dL_faults_9 : decode cL_faults 9 = .ok (.goto 6, 3) := by decide +kernel
theorem dL_faults_12 : decode cL_faults 12 = .ok (.astore_n 3, 1) := by decide +kernel
theorem dL_faults_13 : decode cL_faults 13 = .ok (.iconst 1, 1) := by decide +kernel
theorem dL_faults_14 : decode cL_faults 14 = .ok (.ireturn, 1) := by decide +kernel
theorem dL_faults_15 : decode cL_faults 15 = .ok (.iconst 0, 1) := by decide +kernel
theorem dL_faults_16 : decode cL_faults 16 = .ok (.ireturn, 1) := by decide +kernel
theorem dL_replies_0 : decode cL_replies 0 = .ok (.aload_n 2, 1) := by decide +kernel
theorem dL_replies_1 : decode cL_replies 1 = .ok (.iconst 0, 1) := by decide +kernel
theorem dL_replies_2 : decode cL_replies 2 = .ok (.aload_n 0, 1) := by decide +kernel
theorem dL_replies_3 : decode cL_replies 3 = .ok (.iload_n 1, 1) := by decide +kernel
theorem dL_replies_4 : decode cL_replies 4 = .ok (.invokevirtual 76, 3) := by decide +kernel
theorem dL_replies_7 : decode cL_replies 7 = .ok (.i2l, 1) := by decide +kernel
theorem dL_replies_8 : decode cL_replies 8 = .ok (.lastore, 1) := by decide +kernel
theorem dL_replies_9 : decode cL_replies 9 = .ok (.goto 6, 3) := by decide +kernel
theorem dL_replies_12 : decode cL_replies 12 = .ok (.astore_n 3, 1) := by decide +kernel
theorem dL_replies_13 : decode cL_replies 13 = .ok (.iconst 1, 1) := by decide +kernel
theorem dL_replies_14 : decode cL_replies 14 = .ok (.ireturn, 1) := by decide +kernel
theorem dL_replies_15 : decode cL_replies 15 = .ok (.iconst 0, 1) := by decide +kernel
theorem dL_replies_16 : decode cL_replies 16 = .ok (.ireturn, 1) := by decide +kernel
theorem dL_forwarded_0 : decode cL_forwarded 0 = .ok (.aload_n 2, 1) := by decide +kernel
theorem dL_forwarded_1 : decode cL_forwarded 1 = .ok (.iconst 0, 1) := by decide +kernel
theorem dL_forwarded_2 : decode cL_forwarded 2 = .ok (.aload_n 0, 1) := by decide +kernel
theorem dL_forwarded_3 : decode cL_forwarded 3 = .ok (.iload_n 1, 1) := by decide +kernel
theorem dL_forwarded_4 : decode cL_forwarded 4 = .ok (.invokevirtual 79, 3) := by decide +kernel
theorem dL_forwarded_7 : decode cL_forwarded 7 = .ok (.i2l, 1) := by decide +kernel
theorem dL_forwarded_8 : decode cL_forwarded 8 = .ok (.lastore, 1) := by decide +kernel
theorem dL_forwarded_9 : decode cL_forwarded 9 = .ok (.goto 6, 3) := by decide +kernel
theorem dL_forwarded_12 : decode cL_forwarded 12 = .ok (.astore_n 3, 1) := by decide +kernel
theorem dL_forwarded_13 : decode cL_forwarded 13 = .ok (.iconst 1, 1) := by decide +kernel
theorem dL_forwarded_14 : decode cL_forwarded 14 = .ok (.ireturn, 1) := by decide +kernel
theorem dL_forwarded_15 : decode cL_forwarded 15 = .ok (.iconst 0, 1) := by decide +kernel
theorem dL_forwarded_16 : decode cL_forwarded 16 = .ok (.ireturn, 1) := by decide +kernel
theorem dL_difference_0 : decode cL_difference 0 = .ok (.aload_n 3, 1) := by decide +kernel
theorem dL_difference_1 : decode cL_difference 1 = .ok (.iconst 0, 1) := by decide +kernel
theorem dL_difference_2 : decode cL_difference 2 = .ok (.aload_n 0, 1) := by decide +kernel
theorem dL_difference_3 : decode cL_difference 3 = .ok (.iload_n 1, 1) := by decide +kernel
theorem dL_difference_4 : decode cL_difference 4 = .ok (.iload_n 2, 1) := by decide +kernel
theorem dL_difference_5 : decode cL_difference 5 = .ok (.invokevirtual 82, 3) := by decide +kernel
theorem dL_difference_8 : decode cL_difference 8 = .ok (.i2l, 1) := by decide +kernel
theorem dL_difference_9 : decode cL_difference 9 = .ok (.lastore, 1) := by decide +kernel
theorem dL_difference_10 : decode cL_difference 10 = .ok (.goto 7, 3) := by decide +kernel
theorem dL_difference_13 : decode cL_difference 13 = .ok (.astore 4, 2) := by decide +kernel
theorem dL_difference_15 : decode cL_difference 15 = .ok (.iconst 1, 1) := by decide +kernel
theorem dL_difference_16 : decode cL_difference 16 = .ok (.ireturn, 1) := by decide +kernel
theorem dL_difference_17 : decode cL_difference 17 = .ok (.iconst 0, 1) := by decide +kernel
theorem dL_difference_18 : decode cL_difference 18 = .ok (.ireturn, 1) := by decide +kernel
theorem dL_isShadowed_0 : decode cL_isShadowed 0 = .ok (.aload_n 3, 1) := by decide +kernel
theorem dL_isShadowed_1 : decode cL_isShadowed 1 = .ok (.iconst 0, 1) := by decide +kernel
theorem dL_isShadowed_2 : decode cL_isShadowed 2 = .ok (.aload_n 0, 1) := by decide +kernel
theorem dL_isShadowed_3 : decode cL_isShadowed 3 = .ok (.iload_n 1, 1) := by decide +kernel
theorem dL_isShadowed_4 : decode cL_isShadowed 4 = .ok (.iload_n 2, 1) := by decide +kernel
theorem dL_isShadowed_5 : decode cL_isShadowed 5 = .ok (.invokevirtual 85, 3) := by decide +kernel
theorem dL_isShadowed_8 : decode cL_isShadowed 8 = .ok (.ifCond .eq 7, 3) := by decide +kernel
theorem dL_isShadowed_11 : decode cL_isShadowed 11 = .ok (.lconst 1, 1) := by decide +kernel
theorem dL_isShadowed_12 : decode cL_isShadowed 12 = .ok (.goto 4, 3) := by decide +kernel
theorem dL_isShadowed_15 : decode cL_isShadowed 15 = .ok (.lconst 0, 1) := by decide +kernel
theorem dL_isShadowed_16 : decode cL_isShadowed 16 = .ok (.lastore, 1) := by decide +kernel
theorem dL_isShadowed_17 : decode cL_isShadowed 17 = .ok (.goto 7, 3) := by decide +kernel
theorem dL_isShadowed_20 : decode cL_isShadowed 20 = .ok (.astore 4, 2) := by decide +kernel
theorem dL_isShadowed_22 : decode cL_isShadowed 22 = .ok (.iconst 1, 1) := by decide +kernel
theorem dL_isShadowed_23 : decode cL_isShadowed 23 = .ok (.ireturn, 1) := by decide +kernel
theorem dL_isShadowed_24 : decode cL_isShadowed 24 = .ok (.iconst 0, 1) := by decide +kernel
theorem dL_isShadowed_25 : decode cL_isShadowed 25 = .ok (.ireturn, 1) := by decide +kernel
theorem dL_areSame_0 : decode cL_areSame 0 = .ok (.aload_n 3, 1) := by decide +kernel
theorem dL_areSame_1 : decode cL_areSame 1 = .ok (.iconst 0, 1) := by decide +kernel
theorem dL_areSame_2 : decode cL_areSame 2 = .ok (.aload_n 0, 1) := by decide +kernel
theorem dL_areSame_3 : decode cL_areSame 3 = .ok (.iload_n 1, 1) := by decide +kernel
theorem dL_areSame_4 : decode cL_areSame 4 = .ok (.iload_n 2, 1) := by decide +kernel
theorem dL_areSame_5 : decode cL_areSame 5 = .ok (.invokevirtual 88, 3) := by decide +kernel
theorem dL_areSame_8 : decode cL_areSame 8 = .ok (.ifCond .eq 7, 3) := by decide +kernel
theorem dL_areSame_11 : decode cL_areSame 11 = .ok (.lconst 1, 1) := by decide +kernel
theorem dL_areSame_12 : decode cL_areSame 12 = .ok (.goto 4, 3) := by decide +kernel
theorem dL_areSame_15 : decode cL_areSame 15 = .ok (.lconst 0, 1) := by decide +kernel
theorem dL_areSame_16 : decode cL_areSame 16 = .ok (.lastore, 1) := by decide +kernel
theorem dL_areSame_17 : decode cL_areSame 17 = .ok (.goto 7, 3) := by decide +kernel
theorem dL_areSame_20 : decode cL_areSame 20 = .ok (.astore 4, 2) := by decide +kernel
theorem dL_areSame_22 : decode cL_areSame 22 = .ok (.iconst 1, 1) := by decide +kernel
theorem dL_areSame_23 : decode cL_areSame 23 = .ok (.ireturn, 1) := by decide +kernel
theorem dL_areSame_24 : decode cL_areSame 24 = .ok (.iconst 0, 1) := by decide +kernel
theorem dL_areSame_25 : decode cL_areSame 25 = .ok (.ireturn, 1) := by decide +kernel
theorem dL_learn_0 : decode cL_learn 0 = .ok (.aload_n 2, 1) := by decide +kernel
theorem dL_learn_1 : decode cL_learn 1 = .ok (.iconst 0, 1) := by decide +kernel
theorem dL_learn_2 : decode cL_learn 2 = .ok (.aload_n 0, 1) := by decide +kernel
theorem dL_learn_3 : decode cL_learn 3 = .ok (.iload_n 1, 1) := by decide +kernel
theorem dL_learn_4 : decode cL_learn 4 = .ok (.invokevirtual 91, 3) := by decide +kernel
theorem dL_learn_7 : decode cL_learn 7 = .ok (.i2l, 1) := by decide +kernel
theorem dL_learn_8 : decode cL_learn 8 = .ok (.lastore, 1) := by decide +kernel
theorem dL_learn_9 : decode cL_learn 9 = .ok (.goto 12, 3) := by decide +kernel
theorem dL_learn_12 : decode cL_learn 12 = .ok (.astore_n 3, 1) := by decide +kernel
theorem dL_learn_13 : decode cL_learn 13 = .ok (.iconst 1, 1) := by decide +kernel
theorem dL_learn_14 : decode cL_learn 14 = .ok (.ireturn, 1) := by decide +kernel
theorem dL_learn_15 : decode cL_learn 15 = .ok (.astore_n 3, 1) := by decide +kernel
theorem dL_learn_16 : decode cL_learn 16 = .ok (.iconst 2, 1) := by decide +kernel
theorem dL_learn_17 : decode cL_learn 17 = .ok (.ireturn, 1) := by decide +kernel
theorem dL_learn_18 : decode cL_learn 18 = .ok (.astore_n 3, 1) := by decide +kernel
theorem dL_learn_19 : decode cL_learn 19 = .ok (.iconst 3, 1) := by decide +kernel
theorem dL_learn_20 : decode cL_learn 20 = .ok (.ireturn, 1) := by decide +kernel
theorem dL_learn_21 : decode cL_learn 21 = .ok (.iconst 0, 1) := by decide +kernel
theorem dL_learn_22 : decode cL_learn 22 = .ok (.ireturn, 1) := by decide +kernel
theorem dL_goneShare_0 : decode cL_goneShare 0 = .ok (.aload_n 1, 1) := by decide +kernel
theorem dL_goneShare_1 : decode cL_goneShare 1 = .ok (.iconst 0, 1) := by decide +kernel
theorem dL_goneShare_2 : decode cL_goneShare 2 = .ok (.aload_n 0, 1) := by decide +kernel
theorem dL_goneShare_3 : decode cL_goneShare 3 = .ok (.invokevirtual 94, 3) := by decide +kernel
theorem dL_goneShare_6 : decode cL_goneShare 6 = .ok (.f2d, 1) := by decide +kernel
theorem dL_goneShare_7 : decode cL_goneShare 7 = .ok (.dastore, 1) := by decide +kernel
theorem dL_goneShare_8 : decode cL_goneShare 8 = .ok (.goto 6, 3) := by decide +kernel
theorem dL_goneShare_11 : decode cL_goneShare 11 = .ok (.astore_n 2, 1) := by decide +kernel
theorem dL_goneShare_12 : decode cL_goneShare 12 = .ok (.iconst 1, 1) := by decide +kernel
theorem dL_goneShare_13 : decode cL_goneShare 13 = .ok (.ireturn, 1) := by decide +kernel
theorem dL_goneShare_14 : decode cL_goneShare 14 = .ok (.iconst 0, 1) := by decide +kernel
theorem dL_goneShare_15 : decode cL_goneShare 15 = .ok (.ireturn, 1) := by decide +kernel
theorem dL_meanSize_0 : decode cL_meanSize 0 = .ok (.aload_n 2, 1) := by decide +kernel
theorem dL_meanSize_1 : decode cL_meanSize 1 = .ok (.iconst 0, 1) := by decide +kernel
theorem dL_meanSize_2 : decode cL_meanSize 2 = .ok (.aload_n 0, 1) := by decide +kernel
theorem dL_meanSize_3 : decode cL_meanSize 3 = .ok (.iload_n 1, 1) := by decide +kernel
theorem dL_meanSize_4 : decode cL_meanSize 4 = .ok (.invokevirtual 100, 3) := by decide +kernel
theorem dL_meanSize_7 : decode cL_meanSize 7 = .ok (.dastore, 1) := by decide +kernel
theorem dL_meanSize_8 : decode cL_meanSize 8 = .ok (.goto 9, 3) := by decide +kernel
theorem dL_meanSize_11 : decode cL_meanSize 11 = .ok (.astore_n 3, 1) := by decide +kernel
theorem dL_meanSize_12 : decode cL_meanSize 12 = .ok (.iconst 1, 1) := by decide +kernel
theorem dL_meanSize_13 : decode cL_meanSize 13 = .ok (.ireturn, 1) := by decide +kernel
theorem dL_meanSize_14 : decode cL_meanSize 14 = .ok (.astore_n 3, 1) := by decide +kernel
theorem dL_meanSize_15 : decode cL_meanSize 15 = .ok (.iconst 2, 1) := by decide +kernel
theorem dL_meanSize_16 : decode cL_meanSize 16 = .ok (.ireturn, 1) := by decide +kernel
theorem dL_meanSize_17 : decode cL_meanSize 17 = .ok (.iconst 0, 1) := by decide +kernel
theorem dL_meanSize_18 : decode cL_meanSize 18 = .ok (.ireturn, 1) := by decide +kernel
theorem dL_law_0 : decode cL_law 0 = .ok (.new 8, 3) := by decide +kernel
theorem dL_law_3 : decode cL_law 3 = .ok (.dup, 1) := by decide +kernel
theorem dL_law_4 : decode cL_law 4 = .ok (.invokespecial 104, 3) := by decide +kernel
theorem dL_law_7 : decode cL_law 7 = .ok (.astore_n 1, 1) := by decide +kernel
theorem dL_law_8 : decode cL_law 8 = .ok (.new 105, 3) := by decide +kernel
theorem dL_law_11 : decode cL_law 11 = .ok (.dup, 1) := by decide +kernel
theorem dL_law_12 : decode cL_law 12 = .ok (.invokespecial 107, 3) := by decide +kernel
theorem dL_law_15 : decode cL_law 15 = .ok (.astore_n 2, 1) := by decide +kernel
theorem dL_law_16 : decode cL_law 16 = .ok (.iconst 1, 1) := by decide +kernel
theorem dL_law_17 : decode cL_law 17 = .ok (.newarray .long, 2) := by decide +kernel
theorem dL_law_19 : decode cL_law 19 = .ok (.astore_n 3, 1) := by decide +kernel
theorem dL_law_20 : decode cL_law 20 = .ok (.iconst 1, 1) := by decide +kernel
theorem dL_law_21 : decode cL_law 21 = .ok (.newarray .double, 2) := by decide +kernel
theorem dL_law_23 : decode cL_law 23 = .ok (.astore 4, 2) := by decide +kernel
theorem dL_law_25 : decode cL_law 25 = .ok (.iconst 0, 1) := by decide +kernel
theorem dL_law_26 : decode cL_law 26 = .ok (.istore 5, 2) := by decide +kernel
theorem dL_law_28 : decode cL_law 28 = .ok (.iload 5, 2) := by decide +kernel
theorem dL_law_30 : decode cL_law 30 = .ok (.aload_n 0, 1) := by decide +kernel
theorem dL_law_31 : decode cL_law 31 = .ok (.arraylength, 1) := by decide +kernel
theorem dL_law_32 : decode cL_law 32 = .ok (.bipush 6, 2) := by decide +kernel
theorem dL_law_34 : decode cL_law 34 = .ok (.isub, 1) := by decide +kernel
theorem dL_law_35 : decode cL_law 35 = .ok (.if_icmp .gt 1922, 3) := by decide +kernel
theorem dL_law_38 : decode cL_law 38 = .ok (.aload_n 0, 1) := by decide +kernel
theorem dL_law_39 : decode cL_law 39 = .ok (.iload 5, 2) := by decide +kernel
theorem dL_law_41 : decode cL_law 41 = .ok (.iaload, 1) := by decide +kernel
theorem dL_law_42 : decode cL_law 42 = .ok (.bipush 31, 2) := by decide +kernel
theorem dL_law_44 : decode cL_law 44 = .ok (.iand, 1) := by decide +kernel
theorem dL_law_45 : decode cL_law 45 = .ok (.tableswitch 1906 0 29 #[135, 239, 295, 363, 419, 475, 550, 618, 700, 775, 843, 937, 993, 1073, 1129, 1197, 1210, 1266, 1279, 1337, 1350, 1406, 1462, 1530, 1605, 1680, 1736, 1750, 1816, 1893], 135) := by decide +kernel
theorem dL_law_180 : decode cL_law 180 = .ok (.aload_n 1, 1) := by decide +kernel
theorem dL_law_181 : decode cL_law 181 = .ok (.aload_n 0, 1) := by decide +kernel
theorem dL_law_182 : decode cL_law 182 = .ok (.iload 5, 2) := by decide +kernel
theorem dL_law_184 : decode cL_law 184 = .ok (.iconst 1, 1) := by decide +kernel
theorem dL_law_185 : decode cL_law 185 = .ok (.iadd, 1) := by decide +kernel
theorem dL_law_186 : decode cL_law 186 = .ok (.iaload, 1) := by decide +kernel
theorem dL_law_187 : decode cL_law 187 = .ok (.aload_n 0, 1) := by decide +kernel
theorem dL_law_188 : decode cL_law 188 = .ok (.iload 5, 2) := by decide +kernel
theorem dL_law_190 : decode cL_law 190 = .ok (.iconst 2, 1) := by decide +kernel
theorem dL_law_191 : decode cL_law 191 = .ok (.iadd, 1) := by decide +kernel
theorem dL_law_192 : decode cL_law 192 = .ok (.iaload, 1) := by decide +kernel
theorem dL_law_193 : decode cL_law 193 = .ok (.aload_n 0, 1) := by decide +kernel
theorem dL_law_194 : decode cL_law 194 = .ok (.iload 5, 2) := by decide +kernel
theorem dL_law_196 : decode cL_law 196 = .ok (.iconst 3, 1) := by decide +kernel
theorem dL_law_197 : decode cL_law 197 = .ok (.iadd, 1) := by decide +kernel
theorem dL_law_198 : decode cL_law 198 = .ok (.iaload, 1) := by decide +kernel
theorem dL_law_199 : decode cL_law 199 = .ok (.aload_n 0, 1) := by decide +kernel
theorem dL_law_200 : decode cL_law 200 = .ok (.iload 5, 2) := by decide +kernel
theorem dL_law_202 : decode cL_law 202 = .ok (.iconst 4, 1) := by decide +kernel
theorem dL_law_203 : decode cL_law 203 = .ok (.iadd, 1) := by decide +kernel
theorem dL_law_204 : decode cL_law 204 = .ok (.iaload, 1) := by decide +kernel
theorem dL_law_205 : decode cL_law 205 = .ok (.aload_n 0, 1) := by decide +kernel
theorem dL_law_206 : decode cL_law 206 = .ok (.iload 5, 2) := by decide +kernel
theorem dL_law_208 : decode cL_law 208 = .ok (.iconst 5, 1) := by decide +kernel
theorem dL_law_209 : decode cL_law 209 = .ok (.iadd, 1) := by decide +kernel
theorem dL_law_210 : decode cL_law 210 = .ok (.iaload, 1) := by decide +kernel
theorem dL_law_211 : decode cL_law 211 = .ok (.aload_n 3, 1) := by decide +kernel
theorem dL_law_212 : decode cL_law 212 = .ok (.invokestatic 108, 3) := by decide +kernel
theorem dL_law_215 : decode cL_law 215 = .ok (.istore 6, 2) := by decide +kernel
theorem dL_law_217 : decode cL_law 217 = .ok (.aload_n 2, 1) := by decide +kernel
theorem dL_law_218 : decode cL_law 218 = .ok (.aload_n 0, 1) := by decide +kernel
theorem dL_law_219 : decode cL_law 219 = .ok (.iload 5, 2) := by decide +kernel
theorem dL_law_221 : decode cL_law 221 = .ok (.iconst 1, 1) := by decide +kernel
theorem dL_law_222 : decode cL_law 222 = .ok (.iadd, 1) := by decide +kernel
theorem dL_law_223 : decode cL_law 223 = .ok (.iaload, 1) := by decide +kernel
theorem dL_law_224 : decode cL_law 224 = .ok (.aload_n 0, 1) := by decide +kernel
theorem dL_law_225 : decode cL_law 225 = .ok (.iload 5, 2) := by decide +kernel
theorem dL_law_227 : decode cL_law 227 = .ok (.iconst 2, 1) := by decide +kernel
theorem dL_law_228 : decode cL_law 228 = .ok (.iadd, 1) := by decide +kernel
theorem dL_law_229 : decode cL_law 229 = .ok (.iaload, 1) := by decide +kernel
theorem dL_law_230 : decode cL_law 230 = .ok (.aload_n 0, 1) := by decide +kernel
theorem dL_law_231 : decode cL_law 231 = .ok (.iload 5, 2) := by decide +kernel
theorem dL_law_233 : decode cL_law 233 = .ok (.iconst 3, 1) := by decide +kernel
theorem dL_law_234 : decode cL_law 234 = .ok (.iadd, 1) := by decide +kernel
theorem dL_law_235 : decode cL_law 235 = .ok (.iaload, 1) := by decide +kernel
theorem dL_law_236 : decode cL_law 236 = .ok (.aload_n 0, 1) := by decide +kernel
theorem dL_law_237 : decode cL_law 237 = .ok (.iload 5, 2) := by decide +kernel
theorem dL_law_239 : decode cL_law 239 = .ok (.iconst 4, 1) := by decide +kernel
theorem dL_law_240 : decode cL_law 240 = .ok (.iadd, 1) := by decide +kernel
theorem dL_law_241 : decode cL_law 241 = .ok (.iaload, 1) := by decide +kernel
theorem dL_law_242 : decode cL_law 242 = .ok (.aload_n 0, 1) := by decide +kernel
theorem dL_law_243 : decode cL_law 243 = .ok (.iload 5, 2) := by decide +kernel
theorem dL_law_245 : decode cL_law 245 = .ok (.iconst 5, 1) := by decide +kernel
theorem dL_law_246 : decode cL_law 246 = .ok (.iadd, 1) := by decide +kernel
theorem dL_law_247 : decode cL_law 247 = .ok (.iaload, 1) := by decide +kernel
theorem dL_law_248 : decode cL_law 248 = .ok (.invokevirtual 113, 3) := by decide +kernel
theorem dL_law_251 : decode cL_law 251 = .ok (.istore 7, 2) := by decide +kernel
theorem dL_law_253 : decode cL_law 253 = .ok (.aload_n 2, 1) := by decide +kernel
theorem dL_law_254 : decode cL_law 254 = .ok (.invokevirtual 114, 3) := by decide +kernel
theorem dL_law_257 : decode cL_law 257 = .ok (.iload 6, 2) := by decide +kernel
theorem dL_law_259 : decode cL_law 259 = .ok (.if_icmp .eq 5, 3) := by decide +kernel
theorem dL_law_262 : decode cL_law 262 = .ok (.iconst 0, 1) := by decide +kernel
theorem dL_law_263 : decode cL_law 263 = .ok (.ireturn, 1) := by decide +kernel
theorem dL_law_264 : decode cL_law 264 = .ok (.iload 6, 2) := by decide +kernel
theorem dL_law_266 : decode cL_law 266 = .ok (.ifCond .ne 15, 3) := by decide +kernel
theorem dL_law_269 : decode cL_law 269 = .ok (.aload_n 3, 1) := by decide +kernel
theorem dL_law_270 : decode cL_law 270 = .ok (.iconst 0, 1) := by decide +kernel
theorem dL_law_271 : decode cL_law 271 = .ok (.laload, 1) := by decide +kernel
theorem dL_law_272 : decode cL_law 272 = .ok (.iload 7, 2) := by decide +kernel
theorem dL_law_274 : decode cL_law 274 = .ok (.i2l, 1) := by decide +kernel
theorem dL_law_275 : decode cL_law 275 = .ok (.lcmp, 1) := by decide +kernel
theorem dL_law_276 : decode cL_law 276 = .ok (.ifCond .eq 5, 3) := by decide +kernel
theorem dL_law_279 : decode cL_law 279 = .ok (.iconst 0, 1) := by decide +kernel
theorem dL_law_280 : decode cL_law 280 = .ok (.ireturn, 1) := by decide +kernel
theorem dL_law_281 : decode cL_law 281 = .ok (.goto 1670, 3) := by decide +kernel
theorem dL_law_284 : decode cL_law 284 = .ok (.aload_n 1, 1) := by decide +kernel
theorem dL_law_285 : decode cL_law 285 = .ok (.aload_n 0, 1) := by decide +kernel
theorem dL_law_286 : decode cL_law 286 = .ok (.iload 5, 2) := by decide +kernel
theorem dL_law_288 : decode cL_law 288 = .ok (.iconst 1, 1) := by decide +kernel
theorem dL_law_289 : decode cL_law 289 = .ok (.iadd, 1) := by decide +kernel
theorem dL_law_290 : decode cL_law 290 = .ok (.iaload, 1) := by decide +kernel
theorem dL_law_291 : decode cL_law 291 = .ok (.aload_n 3, 1) := by decide +kernel
theorem dL_law_292 : decode cL_law 292 = .ok (.invokestatic 118, 3) := by decide +kernel
theorem dL_law_295 : decode cL_law 295 = .ok (.istore 6, 2) := by decide +kernel
theorem dL_law_297 : decode cL_law 297 = .ok (.aload_n 2, 1) := by decide +kernel
theorem dL_law_298 : decode cL_law 298 = .ok (.aload_n 0, 1) := by decide +kernel
theorem dL_law_299 : decode cL_law 299 = .ok (.iload 5, 2) := by decide +kernel
theorem dL_law_301 : decode cL_law 301 = .ok (.iconst 1, 1) := by decide +kernel
theorem dL_law_302 : decode cL_law 302 = .ok (.iadd, 1) := by decide +kernel
theorem dL_law_303 : decode cL_law 303 = .ok (.iaload, 1) := by decide +kernel
theorem dL_law_304 : decode cL_law 304 = .ok (.invokevirtual 121, 3) := by decide +kernel
theorem dL_law_307 : decode cL_law 307 = .ok (.istore 7, 2) := by decide +kernel
theorem dL_law_309 : decode cL_law 309 = .ok (.aload_n 2, 1) := by decide +kernel
theorem dL_law_310 : decode cL_law 310 = .ok (.invokevirtual 114, 3) := by decide +kernel
theorem dL_law_313 : decode cL_law 313 = .ok (.iload 6, 2) := by decide +kernel
theorem dL_law_315 : decode cL_law 315 = .ok (.if_icmp .eq 5, 3) := by decide +kernel
theorem dL_law_318 : decode cL_law 318 = .ok (.iconst 0, 1) := by decide +kernel
theorem dL_law_319 : decode cL_law 319 = .ok (.ireturn, 1) := by decide +kernel
theorem dL_law_320 : decode cL_law 320 = .ok (.iload 6, 2) := by decide +kernel
theorem dL_law_322 : decode cL_law 322 = .ok (.ifCond .ne 15, 3) := by decide +kernel
theorem dL_law_325 : decode cL_law 325 = .ok (.aload_n 3, 1) := by decide +kernel
theorem dL_law_326 : decode cL_law 326 = .ok (.iconst 0, 1) := by decide +kernel
theorem dL_law_327 : decode cL_law 327 = .ok (.laload, 1) := by decide +kernel
theorem dL_law_328 : decode cL_law 328 = .ok (.iload 7, 2) := by decide +kernel
theorem dL_law_330 : decode cL_law 330 = .ok (.i2l, 1) := by decide +kernel
theorem dL_law_331 : decode cL_law 331 = .ok (.lcmp, 1) := by decide +kernel
theorem dL_law_332 : decode cL_law 332 = .ok (.ifCond .eq 5, 3) := by decide +kernel
theorem dL_law_335 : decode cL_law 335 = .ok (.iconst 0, 1) := by decide +kernel
theorem dL_law_336 : decode cL_law 336 = .ok (.ireturn, 1) := by decide +kernel
theorem dL_law_337 : decode cL_law 337 = .ok (.goto 1614, 3) := by decide +kernel
theorem dL_law_340 : decode cL_law 340 = .ok (.aload_n 1, 1) := by decide +kernel
theorem dL_law_341 : decode cL_law 341 = .ok (.aload_n 0, 1) := by decide +kernel
theorem dL_law_342 : decode cL_law 342 = .ok (.iload 5, 2) := by decide +kernel
theorem dL_law_344 : decode cL_law 344 = .ok (.iconst 1, 1) := by decide +kernel
theorem dL_law_345 : decode cL_law 345 = .ok (.iadd, 1) := by decide +kernel
theorem dL_law_346 : decode cL_law 346 = .ok (.iaload, 1) := by decide +kernel
theorem dL_law_347 : decode cL_law 347 = .ok (.aload_n 0, 1) := by decide +kernel
theorem dL_law_348 : decode cL_law 348 = .ok (.iload 5, 2) := by decide +kernel
theorem dL_law_350 : decode cL_law 350 = .ok (.iconst 2, 1) := by decide +kernel
theorem dL_law_351 : decode cL_law 351 = .ok (.iadd, 1) := by decide +kernel
theorem dL_law_352 : decode cL_law 352 = .ok (.iaload, 1) := by decide +kernel
theorem dL_law_353 : decode cL_law 353 = .ok (.aload_n 3, 1) := by decide +kernel
theorem dL_law_354 : decode cL_law 354 = .ok (.invokestatic 122, 3) := by decide +kernel
theorem dL_law_357 : decode cL_law 357 = .ok (.istore 6, 2) := by decide +kernel
theorem dL_law_359 : decode cL_law 359 = .ok (.aload_n 2, 1) := by decide +kernel
theorem dL_law_360 : decode cL_law 360 = .ok (.aload_n 0, 1) := by decide +kernel
theorem dL_law_361 : decode cL_law 361 = .ok (.iload 5, 2) := by decide +kernel
theorem dL_law_363 : decode cL_law 363 = .ok (.iconst 1, 1) := by decide +kernel
theorem dL_law_364 : decode cL_law 364 = .ok (.iadd, 1) := by decide +kernel
theorem dL_law_365 : decode cL_law 365 = .ok (.iaload, 1) := by decide +kernel
theorem dL_law_366 : decode cL_law 366 = .ok (.aload_n 0, 1) := by decide +kernel
theorem dL_law_367 : decode cL_law 367 = .ok (.iload 5, 2) := by decide +kernel
theorem dL_law_369 : decode cL_law 369 = .ok (.iconst 2, 1) := by decide +kernel
theorem dL_law_370 : decode cL_law 370 = .ok (.iadd, 1) := by decide +kernel
theorem dL_law_371 : decode cL_law 371 = .ok (.iaload, 1) := by decide +kernel
theorem dL_law_372 : decode cL_law 372 = .ok (.invokevirtual 125, 3) := by decide +kernel
theorem dL_law_375 : decode cL_law 375 = .ok (.istore 7, 2) := by decide +kernel
theorem dL_law_377 : decode cL_law 377 = .ok (.aload_n 2, 1) := by decide +kernel
theorem dL_law_378 : decode cL_law 378 = .ok (.invokevirtual 114, 3) := by decide +kernel
theorem dL_law_381 : decode cL_law 381 = .ok (.iload 6, 2) := by decide +kernel
theorem dL_law_383 : decode cL_law 383 = .ok (.if_icmp .eq 5, 3) := by decide +kernel
theorem dL_law_386 : decode cL_law 386 = .ok (.iconst 0, 1) := by decide +kernel
theorem dL_law_387 : decode cL_law 387 = .ok (.ireturn, 1) := by decide +kernel
theorem dL_law_388 : decode cL_law 388 = .ok (.iload 6, 2) := by decide +kernel
theorem dL_law_390 : decode cL_law 390 = .ok (.ifCond .ne 15, 3) := by decide +kernel
theorem dL_law_393 : decode cL_law 393 = .ok (.aload_n 3, 1) := by decide +kernel
theorem dL_law_394 : decode cL_law 394 = .ok (.iconst 0, 1) := by decide +kernel
theorem dL_law_395 : decode cL_law 395 = .ok (.laload, 1) := by decide +kernel
theorem dL_law_396 : decode cL_law 396 = .ok (.iload 7, 2) := by decide +kernel
theorem dL_law_398 : decode cL_law 398 = .ok (.i2l, 1) := by decide +kernel
theorem dL_law_399 : decode cL_law 399 = .ok (.lcmp, 1) := by decide +kernel
theorem dL_law_400 : decode cL_law 400 = .ok (.ifCond .eq 5, 3) := by decide +kernel
theorem dL_law_403 : decode cL_law 403 = .ok (.iconst 0, 1) := by decide +kernel
theorem dL_law_404 : decode cL_law 404 = .ok (.ireturn, 1) := by decide +kernel
theorem dL_law_405 : decode cL_law 405 = .ok (.goto 1546, 3) := by decide +kernel
theorem dL_law_408 : decode cL_law 408 = .ok (.aload_n 1, 1) := by decide +kernel
theorem dL_law_409 : decode cL_law 409 = .ok (.aload_n 0, 1) := by decide +kernel
theorem dL_law_410 : decode cL_law 410 = .ok (.iload 5, 2) := by decide +kernel
theorem dL_law_412 : decode cL_law 412 = .ok (.iconst 1, 1) := by decide +kernel
theorem dL_law_413 : decode cL_law 413 = .ok (.iadd, 1) := by decide +kernel
theorem dL_law_414 : decode cL_law 414 = .ok (.iaload, 1) := by decide +kernel
theorem dL_law_415 : decode cL_law 415 = .ok (.aload_n 3, 1) := by decide +kernel
theorem dL_law_416 : decode cL_law 416 = .ok (.invokestatic 126, 3) := by decide +kernel
theorem dL_law_419 : decode cL_law 419 = .ok (.istore 6, 2) := by decide +kernel
theorem dL_law_421 : decode cL_law 421 = .ok (.aload_n 2, 1) := by decide +kernel
theorem dL_law_422 : decode cL_law 422 = .ok (.aload_n 0, 1) := by decide +kernel
theorem dL_law_423 : decode cL_law 423 = .ok (.iload 5, 2) := by decide +kernel
theorem dL_law_425 : decode cL_law 425 = .ok (.iconst 1, 1) := by decide +kernel
theorem dL_law_426 : decode cL_law 426 = .ok (.iadd, 1) := by decide +kernel
theorem dL_law_427 : decode cL_law 427 = .ok (.iaload, 1) := by decide +kernel
theorem dL_law_428 : decode cL_law 428 = .ok (.invokevirtual 128, 3) := by decide +kernel
theorem dL_law_431 : decode cL_law 431 = .ok (.istore 7, 2) := by decide +kernel
theorem dL_law_433 : decode cL_law 433 = .ok (.aload_n 2, 1) := by decide +kernel
theorem dL_law_434 : decode cL_law 434 = .ok (.invokevirtual 114, 3) := by decide +kernel
theorem dL_law_437 : decode cL_law 437 = .ok (.iload 6, 2) := by decide +kernel
theorem dL_law_439 : decode cL_law 439 = .ok (.if_icmp .eq 5, 3) := by decide +kernel
theorem dL_law_442 : decode cL_law 442 = .ok (.iconst 0, 1) := by decide +kernel
theorem dL_law_443 : decode cL_law 443 = .ok (.ireturn, 1) := by decide +kernel
theorem dL_law_444 : decode cL_law 444 = .ok (.iload 6, 2) := by decide +kernel
theorem dL_law_446 : decode cL_law 446 = .ok (.ifCond .ne 15, 3) := by decide +kernel
theorem dL_law_449 : decode cL_law 449 = .ok (.aload_n 3, 1) := by decide +kernel
theorem dL_law_450 : decode cL_law 450 = .ok (.iconst 0, 1) := by decide +kernel
theorem dL_law_451 : decode cL_law 451 = .ok (.laload, 1) := by decide +kernel
theorem dL_law_452 : decode cL_law 452 = .ok (.iload 7, 2) := by decide +kernel
theorem dL_law_454 : decode cL_law 454 = .ok (.i2l, 1) := by decide +kernel
theorem dL_law_455 : decode cL_law 455 = .ok (.lcmp, 1) := by decide +kernel
theorem dL_law_456 : decode cL_law 456 = .ok (.ifCond .eq 5, 3) := by decide +kernel
theorem dL_law_459 : decode cL_law 459 = .ok (.iconst 0, 1) := by decide +kernel
theorem dL_law_460 : decode cL_law 460 = .ok (.ireturn, 1) := by decide +kernel
theorem dL_law_461 : decode cL_law 461 = .ok (.goto 1490, 3) := by decide +kernel
theorem dL_law_464 : decode cL_law 464 = .ok (.aload_n 1, 1) := by decide +kernel
theorem dL_law_465 : decode cL_law 465 = .ok (.aload_n 0, 1) := by decide +kernel
theorem dL_law_466 : decode cL_law 466 = .ok (.iload 5, 2) := by decide +kernel
theorem dL_law_468 : decode cL_law 468 = .ok (.iconst 1, 1) := by decide +kernel
theorem dL_law_469 : decode cL_law 469 = .ok (.iadd, 1) := by decide +kernel
theorem dL_law_470 : decode cL_law 470 = .ok (.iaload, 1) := by decide +kernel
theorem dL_law_471 : decode cL_law 471 = .ok (.aload_n 3, 1) := by decide +kernel
theorem dL_law_472 : decode cL_law 472 = .ok (.invokestatic 129, 3) := by decide +kernel
theorem dL_law_475 : decode cL_law 475 = .ok (.istore 6, 2) := by decide +kernel
theorem dL_law_477 : decode cL_law 477 = .ok (.aload_n 2, 1) := by decide +kernel
theorem dL_law_478 : decode cL_law 478 = .ok (.aload_n 0, 1) := by decide +kernel
theorem dL_law_479 : decode cL_law 479 = .ok (.iload 5, 2) := by decide +kernel
theorem dL_law_481 : decode cL_law 481 = .ok (.iconst 1, 1) := by decide +kernel
theorem dL_law_482 : decode cL_law 482 = .ok (.iadd, 1) := by decide +kernel
theorem dL_law_483 : decode cL_law 483 = .ok (.iaload, 1) := by decide +kernel
theorem dL_law_484 : decode cL_law 484 = .ok (.invokevirtual 131, 3) := by decide +kernel
theorem dL_law_487 : decode cL_law 487 = .ok (.istore 7, 2) := by decide +kernel
theorem dL_law_489 : decode cL_law 489 = .ok (.aload_n 2, 1) := by decide +kernel
theorem dL_law_490 : decode cL_law 490 = .ok (.invokevirtual 114, 3) := by decide +kernel
theorem dL_law_493 : decode cL_law 493 = .ok (.iload 6, 2) := by decide +kernel
theorem dL_law_495 : decode cL_law 495 = .ok (.if_icmp .eq 5, 3) := by decide +kernel
theorem dL_law_498 : decode cL_law 498 = .ok (.iconst 0, 1) := by decide +kernel
theorem dL_law_499 : decode cL_law 499 = .ok (.ireturn, 1) := by decide +kernel
theorem dL_law_500 : decode cL_law 500 = .ok (.iload 6, 2) := by decide +kernel
theorem dL_law_502 : decode cL_law 502 = .ok (.ifCond .ne 15, 3) := by decide +kernel
theorem dL_law_505 : decode cL_law 505 = .ok (.aload_n 3, 1) := by decide +kernel
theorem dL_law_506 : decode cL_law 506 = .ok (.iconst 0, 1) := by decide +kernel
theorem dL_law_507 : decode cL_law 507 = .ok (.laload, 1) := by decide +kernel
theorem dL_law_508 : decode cL_law 508 = .ok (.iload 7, 2) := by decide +kernel
theorem dL_law_510 : decode cL_law 510 = .ok (.i2l, 1) := by decide +kernel
theorem dL_law_511 : decode cL_law 511 = .ok (.lcmp, 1) := by decide +kernel
theorem dL_law_512 : decode cL_law 512 = .ok (.ifCond .eq 5, 3) := by decide +kernel
theorem dL_law_515 : decode cL_law 515 = .ok (.iconst 0, 1) := by decide +kernel
theorem dL_law_516 : decode cL_law 516 = .ok (.ireturn, 1) := by decide +kernel
theorem dL_law_517 : decode cL_law 517 = .ok (.goto 1434, 3) := by decide +kernel
theorem dL_law_520 : decode cL_law 520 = .ok (.aload_n 1, 1) := by decide +kernel
theorem dL_law_521 : decode cL_law 521 = .ok (.aload_n 0, 1) := by decide +kernel
theorem dL_law_522 : decode cL_law 522 = .ok (.iload 5, 2) := by decide +kernel
theorem dL_law_524 : decode cL_law 524 = .ok (.iconst 1, 1) := by decide +kernel
theorem dL_law_525 : decode cL_law 525 = .ok (.iadd, 1) := by decide +kernel
theorem dL_law_526 : decode cL_law 526 = .ok (.iaload, 1) := by decide +kernel
theorem dL_law_527 : decode cL_law 527 = .ok (.aload_n 0, 1) := by decide +kernel
theorem dL_law_528 : decode cL_law 528 = .ok (.iload 5, 2) := by decide +kernel
theorem dL_law_530 : decode cL_law 530 = .ok (.iconst 2, 1) := by decide +kernel
theorem dL_law_531 : decode cL_law 531 = .ok (.iadd, 1) := by decide +kernel
theorem dL_law_532 : decode cL_law 532 = .ok (.iaload, 1) := by decide +kernel
theorem dL_law_533 : decode cL_law 533 = .ok (.aload_n 3, 1) := by decide +kernel
theorem dL_law_534 : decode cL_law 534 = .ok (.invokestatic 132, 3) := by decide +kernel
theorem dL_law_537 : decode cL_law 537 = .ok (.istore 6, 2) := by decide +kernel
theorem dL_law_539 : decode cL_law 539 = .ok (.aload_n 2, 1) := by decide +kernel
theorem dL_law_540 : decode cL_law 540 = .ok (.aload_n 0, 1) := by decide +kernel
theorem dL_law_541 : decode cL_law 541 = .ok (.iload 5, 2) := by decide +kernel
theorem dL_law_543 : decode cL_law 543 = .ok (.iconst 1, 1) := by decide +kernel
theorem dL_law_544 : decode cL_law 544 = .ok (.iadd, 1) := by decide +kernel
theorem dL_law_545 : decode cL_law 545 = .ok (.iaload, 1) := by decide +kernel
theorem dL_law_546 : decode cL_law 546 = .ok (.aload_n 0, 1) := by decide +kernel
theorem dL_law_547 : decode cL_law 547 = .ok (.iload 5, 2) := by decide +kernel
theorem dL_law_549 : decode cL_law 549 = .ok (.iconst 2, 1) := by decide +kernel
theorem dL_law_550 : decode cL_law 550 = .ok (.iadd, 1) := by decide +kernel
theorem dL_law_551 : decode cL_law 551 = .ok (.iaload, 1) := by decide +kernel
theorem dL_law_552 : decode cL_law 552 = .ok (.invokevirtual 134, 3) := by decide +kernel
theorem dL_law_555 : decode cL_law 555 = .ok (.istore 7, 2) := by decide +kernel
theorem dL_law_557 : decode cL_law 557 = .ok (.aload_n 2, 1) := by decide +kernel
theorem dL_law_558 : decode cL_law 558 = .ok (.invokevirtual 114, 3) := by decide +kernel
theorem dL_law_561 : decode cL_law 561 = .ok (.iload 6, 2) := by decide +kernel
theorem dL_law_563 : decode cL_law 563 = .ok (.if_icmp .eq 5, 3) := by decide +kernel
theorem dL_law_566 : decode cL_law 566 = .ok (.iconst 0, 1) := by decide +kernel
theorem dL_law_567 : decode cL_law 567 = .ok (.ireturn, 1) := by decide +kernel
theorem dL_law_568 : decode cL_law 568 = .ok (.iload 6, 2) := by decide +kernel
theorem dL_law_570 : decode cL_law 570 = .ok (.ifCond .ne 22, 3) := by decide +kernel
theorem dL_law_573 : decode cL_law 573 = .ok (.aload_n 3, 1) := by decide +kernel
theorem dL_law_574 : decode cL_law 574 = .ok (.iconst 0, 1) := by decide +kernel
theorem dL_law_575 : decode cL_law 575 = .ok (.laload, 1) := by decide +kernel
theorem dL_law_576 : decode cL_law 576 = .ok (.iload 7, 2) := by decide +kernel
theorem dL_law_578 : decode cL_law 578 = .ok (.ifCond .eq 7, 3) := by decide +kernel
theorem dL_law_581 : decode cL_law 581 = .ok (.lconst 1, 1) := by decide +kernel
theorem dL_law_582 : decode cL_law 582 = .ok (.goto 4, 3) := by decide +kernel
theorem dL_law_585 : decode cL_law 585 = .ok (.lconst 0, 1) := by decide +kernel
theorem dL_law_586 : decode cL_law 586 = .ok (.lcmp, 1) := by decide +kernel
theorem dL_law_587 : decode cL_law 587 = .ok (.ifCond .eq 5, 3) := by decide +kernel
theorem dL_law_590 : decode cL_law 590 = .ok (.iconst 0, 1) := by decide +kernel
theorem dL_law_591 : decode cL_law 591 = .ok (.ireturn, 1) := by decide +kernel
theorem dL_law_592 : decode cL_law 592 = .ok (.goto 1359, 3) := by decide +kernel
theorem dL_law_595 : decode cL_law 595 = .ok (.aload_n 1, 1) := by decide +kernel
theorem dL_law_596 : decode cL_law 596 = .ok (.aload_n 0, 1) := by decide +kernel
theorem dL_law_597 : decode cL_law 597 = .ok (.iload 5, 2) := by decide +kernel
theorem dL_law_599 : decode cL_law 599 = .ok (.iconst 1, 1) := by decide +kernel
theorem dL_law_600 : decode cL_law 600 = .ok (.iadd, 1) := by decide +kernel
theorem dL_law_601 : decode cL_law 601 = .ok (.iaload, 1) := by decide +kernel
theorem dL_law_602 : decode cL_law 602 = .ok (.aload_n 0, 1) := by decide +kernel
theorem dL_law_603 : decode cL_law 603 = .ok (.iload 5, 2) := by decide +kernel
theorem dL_law_605 : decode cL_law 605 = .ok (.iconst 2, 1) := by decide +kernel
theorem dL_law_606 : decode cL_law 606 = .ok (.iadd, 1) := by decide +kernel
theorem dL_law_607 : decode cL_law 607 = .ok (.iaload, 1) := by decide +kernel
theorem dL_law_608 : decode cL_law 608 = .ok (.aload_n 3, 1) := by decide +kernel
theorem dL_law_609 : decode cL_law 609 = .ok (.invokestatic 135, 3) := by decide +kernel
theorem dL_law_612 : decode cL_law 612 = .ok (.istore 6, 2) := by decide +kernel
theorem dL_law_614 : decode cL_law 614 = .ok (.aload_n 2, 1) := by decide +kernel
theorem dL_law_615 : decode cL_law 615 = .ok (.aload_n 0, 1) := by decide +kernel
theorem dL_law_616 : decode cL_law 616 = .ok (.iload 5, 2) := by decide +kernel
theorem dL_law_618 : decode cL_law 618 = .ok (.iconst 1, 1) := by decide +kernel
theorem dL_law_619 : decode cL_law 619 = .ok (.iadd, 1) := by decide +kernel
theorem dL_law_620 : decode cL_law 620 = .ok (.iaload, 1) := by decide +kernel
theorem dL_law_621 : decode cL_law 621 = .ok (.aload_n 0, 1) := by decide +kernel
theorem dL_law_622 : decode cL_law 622 = .ok (.iload 5, 2) := by decide +kernel
theorem dL_law_624 : decode cL_law 624 = .ok (.iconst 2, 1) := by decide +kernel
theorem dL_law_625 : decode cL_law 625 = .ok (.iadd, 1) := by decide +kernel
theorem dL_law_626 : decode cL_law 626 = .ok (.iaload, 1) := by decide +kernel
theorem dL_law_627 : decode cL_law 627 = .ok (.invokevirtual 137, 3) := by decide +kernel
theorem dL_law_630 : decode cL_law 630 = .ok (.istore 7, 2) := by decide +kernel
theorem dL_law_632 : decode cL_law 632 = .ok (.aload_n 2, 1) := by decide +kernel
theorem dL_law_633 : decode cL_law 633 = .ok (.invokevirtual 114, 3) := by decide +kernel
theorem dL_law_636 : decode cL_law 636 = .ok (.iload 6, 2) := by decide +kernel
theorem dL_law_638 : decode cL_law 638 = .ok (.if_icmp .eq 5, 3) := by decide +kernel
theorem dL_law_641 : decode cL_law 641 = .ok (.iconst 0, 1) := by decide +kernel
theorem dL_law_642 : decode cL_law 642 = .ok (.ireturn, 1) := by decide +kernel
theorem dL_law_643 : decode cL_law 643 = .ok (.iload 6, 2) := by decide +kernel
theorem dL_law_645 : decode cL_law 645 = .ok (.ifCond .ne 15, 3) := by decide +kernel
theorem dL_law_648 : decode cL_law 648 = .ok (.aload_n 3, 1) := by decide +kernel
theorem dL_law_649 : decode cL_law 649 = .ok (.iconst 0, 1) := by decide +kernel
theorem dL_law_650 : decode cL_law 650 = .ok (.laload, 1) := by decide +kernel
theorem dL_law_651 : decode cL_law 651 = .ok (.iload 7, 2) := by decide +kernel
theorem dL_law_653 : decode cL_law 653 = .ok (.i2l, 1) := by decide +kernel
theorem dL_law_654 : decode cL_law 654 = .ok (.lcmp, 1) := by decide +kernel
theorem dL_law_655 : decode cL_law 655 = .ok (.ifCond .eq 5, 3) := by decide +kernel
theorem dL_law_658 : decode cL_law 658 = .ok (.iconst 0, 1) := by decide +kernel
theorem dL_law_659 : decode cL_law 659 = .ok (.ireturn, 1) := by decide +kernel
theorem dL_law_660 : decode cL_law 660 = .ok (.goto 1291, 3) := by decide +kernel
theorem dL_law_663 : decode cL_law 663 = .ok (.aload_n 1, 1) := by decide +kernel
theorem dL_law_664 : decode cL_law 664 = .ok (.aload_n 0, 1) := by decide +kernel
theorem dL_law_665 : decode cL_law 665 = .ok (.iload 5, 2) := by decide +kernel
theorem dL_law_667 : decode cL_law 667 = .ok (.iconst 1, 1) := by decide +kernel
theorem dL_law_668 : decode cL_law 668 = .ok (.iadd, 1) := by decide +kernel
theorem dL_law_669 : decode cL_law 669 = .ok (.iaload, 1) := by decide +kernel
theorem dL_law_670 : decode cL_law 670 = .ok (.i2c, 1) := by decide +kernel
theorem dL_law_671 : decode cL_law 671 = .ok (.aload_n 0, 1) := by decide +kernel
theorem dL_law_672 : decode cL_law 672 = .ok (.iload 5, 2) := by decide +kernel
theorem dL_law_674 : decode cL_law 674 = .ok (.iconst 2, 1) := by decide +kernel
theorem dL_law_675 : decode cL_law 675 = .ok (.iadd, 1) := by decide +kernel
theorem dL_law_676 : decode cL_law 676 = .ok (.iaload, 1) := by decide +kernel
theorem dL_law_677 : decode cL_law 677 = .ok (.aload_n 0, 1) := by decide +kernel
theorem dL_law_678 : decode cL_law 678 = .ok (.iload 5, 2) := by decide +kernel
theorem dL_law_680 : decode cL_law 680 = .ok (.iconst 3, 1) := by decide +kernel
theorem dL_law_681 : decode cL_law 681 = .ok (.iadd, 1) := by decide +kernel
theorem dL_law_682 : decode cL_law 682 = .ok (.iaload, 1) := by decide +kernel
theorem dL_law_683 : decode cL_law 683 = .ok (.aload_n 3, 1) := by decide +kernel
theorem dL_law_684 : decode cL_law 684 = .ok (.invokestatic 138, 3) := by decide +kernel
theorem dL_law_687 : decode cL_law 687 = .ok (.istore 6, 2) := by decide +kernel
theorem dL_law_689 : decode cL_law 689 = .ok (.aload_n 2, 1) := by decide +kernel
theorem dL_law_690 : decode cL_law 690 = .ok (.aload_n 0, 1) := by decide +kernel
theorem dL_law_691 : decode cL_law 691 = .ok (.iload 5, 2) := by decide +kernel
theorem dL_law_693 : decode cL_law 693 = .ok (.iconst 1, 1) := by decide +kernel
theorem dL_law_694 : decode cL_law 694 = .ok (.iadd, 1) := by decide +kernel
theorem dL_law_695 : decode cL_law 695 = .ok (.iaload, 1) := by decide +kernel
theorem dL_law_696 : decode cL_law 696 = .ok (.i2c, 1) := by decide +kernel
theorem dL_law_697 : decode cL_law 697 = .ok (.aload_n 0, 1) := by decide +kernel
theorem dL_law_698 : decode cL_law 698 = .ok (.iload 5, 2) := by decide +kernel
theorem dL_law_700 : decode cL_law 700 = .ok (.iconst 2, 1) := by decide +kernel
theorem dL_law_701 : decode cL_law 701 = .ok (.iadd, 1) := by decide +kernel
theorem dL_law_702 : decode cL_law 702 = .ok (.iaload, 1) := by decide +kernel
theorem dL_law_703 : decode cL_law 703 = .ok (.aload_n 0, 1) := by decide +kernel
theorem dL_law_704 : decode cL_law 704 = .ok (.iload 5, 2) := by decide +kernel
theorem dL_law_706 : decode cL_law 706 = .ok (.iconst 3, 1) := by decide +kernel
theorem dL_law_707 : decode cL_law 707 = .ok (.iadd, 1) := by decide +kernel
theorem dL_law_708 : decode cL_law 708 = .ok (.iaload, 1) := by decide +kernel
theorem dL_law_709 : decode cL_law 709 = .ok (.invokevirtual 141, 3) := by decide +kernel
theorem dL_law_712 : decode cL_law 712 = .ok (.istore 7, 2) := by decide +kernel
theorem dL_law_714 : decode cL_law 714 = .ok (.aload_n 2, 1) := by decide +kernel
theorem dL_law_715 : decode cL_law 715 = .ok (.invokevirtual 114, 3) := by decide +kernel
theorem dL_law_718 : decode cL_law 718 = .ok (.iload 6, 2) := by decide +kernel
theorem dL_law_720 : decode cL_law 720 = .ok (.if_icmp .eq 5, 3) := by decide +kernel
theorem dL_law_723 : decode cL_law 723 = .ok (.iconst 0, 1) := by decide +kernel
theorem dL_law_724 : decode cL_law 724 = .ok (.ireturn, 1) := by decide +kernel
theorem dL_law_725 : decode cL_law 725 = .ok (.iload 6, 2) := by decide +kernel
theorem dL_law_727 : decode cL_law 727 = .ok (.ifCond .ne 15, 3) := by decide +kernel
theorem dL_law_730 : decode cL_law 730 = .ok (.aload_n 3, 1) := by decide +kernel
theorem dL_law_731 : decode cL_law 731 = .ok (.iconst 0, 1) := by decide +kernel
theorem dL_law_732 : decode cL_law 732 = .ok (.laload, 1) := by decide +kernel
theorem dL_law_733 : decode cL_law 733 = .ok (.iload 7, 2) := by decide +kernel
theorem dL_law_735 : decode cL_law 735 = .ok (.i2l, 1) := by decide +kernel
theorem dL_law_736 : decode cL_law 736 = .ok (.lcmp, 1) := by decide +kernel
theorem dL_law_737 : decode cL_law 737 = .ok (.ifCond .eq 5, 3) := by decide +kernel
theorem dL_law_740 : decode cL_law 740 = .ok (.iconst 0, 1) := by decide +kernel
theorem dL_law_741 : decode cL_law 741 = .ok (.ireturn, 1) := by decide +kernel
theorem dL_law_742 : decode cL_law 742 = .ok (.goto 1209, 3) := by decide +kernel
theorem dL_law_745 : decode cL_law 745 = .ok (.aload_n 1, 1) := by decide +kernel
theorem dL_law_746 : decode cL_law 746 = .ok (.aload_n 0, 1) := by decide +kernel
theorem dL_law_747 : decode cL_law 747 = .ok (.iload 5, 2) := by decide +kernel
theorem dL_law_749 : decode cL_law 749 = .ok (.iconst 1, 1) := by decide +kernel
theorem dL_law_750 : decode cL_law 750 = .ok (.iadd, 1) := by decide +kernel
theorem dL_law_751 : decode cL_law 751 = .ok (.iaload, 1) := by decide +kernel
theorem dL_law_752 : decode cL_law 752 = .ok (.aload_n 0, 1) := by decide +kernel
theorem dL_law_753 : decode cL_law 753 = .ok (.iload 5, 2) := by decide +kernel
theorem dL_law_755 : decode cL_law 755 = .ok (.iconst 2, 1) := by decide +kernel
theorem dL_law_756 : decode cL_law 756 = .ok (.iadd, 1) := by decide +kernel
theorem dL_law_757 : decode cL_law 757 = .ok (.iaload, 1) := by decide +kernel
theorem dL_law_758 : decode cL_law 758 = .ok (.aload_n 3, 1) := by decide +kernel
theorem dL_law_759 : decode cL_law 759 = .ok (.invokestatic 142, 3) := by decide +kernel
theorem dL_law_762 : decode cL_law 762 = .ok (.istore 6, 2) := by decide +kernel
theorem dL_law_764 : decode cL_law 764 = .ok (.aload_n 2, 1) := by decide +kernel
theorem dL_law_765 : decode cL_law 765 = .ok (.aload_n 0, 1) := by decide +kernel
theorem dL_law_766 : decode cL_law 766 = .ok (.iload 5, 2) := by decide +kernel
theorem dL_law_768 : decode cL_law 768 = .ok (.iconst 1, 1) := by decide +kernel
theorem dL_law_769 : decode cL_law 769 = .ok (.iadd, 1) := by decide +kernel
theorem dL_law_770 : decode cL_law 770 = .ok (.iaload, 1) := by decide +kernel
theorem dL_law_771 : decode cL_law 771 = .ok (.aload_n 0, 1) := by decide +kernel
theorem dL_law_772 : decode cL_law 772 = .ok (.iload 5, 2) := by decide +kernel
theorem dL_law_774 : decode cL_law 774 = .ok (.iconst 2, 1) := by decide +kernel
theorem dL_law_775 : decode cL_law 775 = .ok (.iadd, 1) := by decide +kernel
theorem dL_law_776 : decode cL_law 776 = .ok (.iaload, 1) := by decide +kernel
theorem dL_law_777 : decode cL_law 777 = .ok (.invokevirtual 144, 3) := by decide +kernel
theorem dL_law_780 : decode cL_law 780 = .ok (.istore 7, 2) := by decide +kernel
theorem dL_law_782 : decode cL_law 782 = .ok (.aload_n 2, 1) := by decide +kernel
theorem dL_law_783 : decode cL_law 783 = .ok (.invokevirtual 114, 3) := by decide +kernel
theorem dL_law_786 : decode cL_law 786 = .ok (.iload 6, 2) := by decide +kernel
theorem dL_law_788 : decode cL_law 788 = .ok (.if_icmp .eq 5, 3) := by decide +kernel
theorem dL_law_791 : decode cL_law 791 = .ok (.iconst 0, 1) := by decide +kernel
theorem dL_law_792 : decode cL_law 792 = .ok (.ireturn, 1) := by decide +kernel
theorem dL_law_793 : decode cL_law 793 = .ok (.iload 6, 2) := by decide +kernel
theorem dL_law_795 : decode cL_law 795 = .ok (.ifCond .ne 22, 3) := by decide +kernel
theorem dL_law_798 : decode cL_law 798 = .ok (.aload_n 3, 1) := by decide +kernel
theorem dL_law_799 : decode cL_law 799 = .ok (.iconst 0, 1) := by decide +kernel
theorem dL_law_800 : decode cL_law 800 = .ok (.laload, 1) := by decide +kernel
theorem dL_law_801 : decode cL_law 801 = .ok (.iload 7, 2) := by decide +kernel
theorem dL_law_803 : decode cL_law 803 = .ok (.ifCond .eq 7, 3) := by decide +kernel
theorem dL_law_806 : decode cL_law 806 = .ok (.lconst 1, 1) := by decide +kernel
theorem dL_law_807 : decode cL_law 807 = .ok (.goto 4, 3) := by decide +kernel
theorem dL_law_810 : decode cL_law 810 = .ok (.lconst 0, 1) := by decide +kernel
theorem dL_law_811 : decode cL_law 811 = .ok (.lcmp, 1) := by decide +kernel
theorem dL_law_812 : decode cL_law 812 = .ok (.ifCond .eq 5, 3) := by decide +kernel
theorem dL_law_815 : decode cL_law 815 = .ok (.iconst 0, 1) := by decide +kernel
theorem dL_law_816 : decode cL_law 816 = .ok (.ireturn, 1) := by decide +kernel
theorem dL_law_817 : decode cL_law 817 = .ok (.goto 1134, 3) := by decide +kernel
theorem dL_law_820 : decode cL_law 820 = .ok (.aload_n 1, 1) := by decide +kernel
theorem dL_law_821 : decode cL_law 821 = .ok (.aload_n 0, 1) := by decide +kernel
theorem dL_law_822 : decode cL_law 822 = .ok (.iload 5, 2) := by decide +kernel
theorem dL_law_824 : decode cL_law 824 = .ok (.iconst 1, 1) := by decide +kernel
theorem dL_law_825 : decode cL_law 825 = .ok (.iadd, 1) := by decide +kernel
theorem dL_law_826 : decode cL_law 826 = .ok (.iaload, 1) := by decide +kernel
theorem dL_law_827 : decode cL_law 827 = .ok (.aload_n 0, 1) := by decide +kernel
theorem dL_law_828 : decode cL_law 828 = .ok (.iload 5, 2) := by decide +kernel
theorem dL_law_830 : decode cL_law 830 = .ok (.iconst 2, 1) := by decide +kernel
theorem dL_law_831 : decode cL_law 831 = .ok (.iadd, 1) := by decide +kernel
theorem dL_law_832 : decode cL_law 832 = .ok (.iaload, 1) := by decide +kernel
theorem dL_law_833 : decode cL_law 833 = .ok (.aload_n 3, 1) := by decide +kernel
theorem dL_law_834 : decode cL_law 834 = .ok (.invokestatic 145, 3) := by decide +kernel
theorem dL_law_837 : decode cL_law 837 = .ok (.istore 6, 2) := by decide +kernel
theorem dL_law_839 : decode cL_law 839 = .ok (.aload_n 2, 1) := by decide +kernel
theorem dL_law_840 : decode cL_law 840 = .ok (.aload_n 0, 1) := by decide +kernel
theorem dL_law_841 : decode cL_law 841 = .ok (.iload 5, 2) := by decide +kernel
theorem dL_law_843 : decode cL_law 843 = .ok (.iconst 1, 1) := by decide +kernel
theorem dL_law_844 : decode cL_law 844 = .ok (.iadd, 1) := by decide +kernel
theorem dL_law_845 : decode cL_law 845 = .ok (.iaload, 1) := by decide +kernel
theorem dL_law_846 : decode cL_law 846 = .ok (.aload_n 0, 1) := by decide +kernel
theorem dL_law_847 : decode cL_law 847 = .ok (.iload 5, 2) := by decide +kernel
theorem dL_law_849 : decode cL_law 849 = .ok (.iconst 2, 1) := by decide +kernel
theorem dL_law_850 : decode cL_law 850 = .ok (.iadd, 1) := by decide +kernel
theorem dL_law_851 : decode cL_law 851 = .ok (.iaload, 1) := by decide +kernel
theorem dL_law_852 : decode cL_law 852 = .ok (.invokevirtual 147, 3) := by decide +kernel
theorem dL_law_855 : decode cL_law 855 = .ok (.istore 7, 2) := by decide +kernel
theorem dL_law_857 : decode cL_law 857 = .ok (.aload_n 2, 1) := by decide +kernel
theorem dL_law_858 : decode cL_law 858 = .ok (.invokevirtual 114, 3) := by decide +kernel
theorem dL_law_861 : decode cL_law 861 = .ok (.iload 6, 2) := by decide +kernel
theorem dL_law_863 : decode cL_law 863 = .ok (.if_icmp .eq 5, 3) := by decide +kernel
theorem dL_law_866 : decode cL_law 866 = .ok (.iconst 0, 1) := by decide +kernel
theorem dL_law_867 : decode cL_law 867 = .ok (.ireturn, 1) := by decide +kernel
theorem dL_law_868 : decode cL_law 868 = .ok (.iload 6, 2) := by decide +kernel
theorem dL_law_870 : decode cL_law 870 = .ok (.ifCond .ne 15, 3) := by decide +kernel
theorem dL_law_873 : decode cL_law 873 = .ok (.aload_n 3, 1) := by decide +kernel
theorem dL_law_874 : decode cL_law 874 = .ok (.iconst 0, 1) := by decide +kernel
theorem dL_law_875 : decode cL_law 875 = .ok (.laload, 1) := by decide +kernel
theorem dL_law_876 : decode cL_law 876 = .ok (.iload 7, 2) := by decide +kernel
theorem dL_law_878 : decode cL_law 878 = .ok (.i2l, 1) := by decide +kernel
theorem dL_law_879 : decode cL_law 879 = .ok (.lcmp, 1) := by decide +kernel
theorem dL_law_880 : decode cL_law 880 = .ok (.ifCond .eq 5, 3) := by decide +kernel
theorem dL_law_883 : decode cL_law 883 = .ok (.iconst 0, 1) := by decide +kernel
theorem dL_law_884 : decode cL_law 884 = .ok (.ireturn, 1) := by decide +kernel
theorem dL_law_885 : decode cL_law 885 = .ok (.goto 1066, 3) := by decide +kernel
theorem dL_law_888 : decode cL_law 888 = .ok (.aload_n 1, 1) := by decide +kernel
theorem dL_law_889 : decode cL_law 889 = .ok (.aload_n 0, 1) := by decide +kernel
theorem dL_law_890 : decode cL_law 890 = .ok (.iload 5, 2) := by decide +kernel
theorem dL_law_892 : decode cL_law 892 = .ok (.iconst 1, 1) := by decide +kernel
theorem dL_law_893 : decode cL_law 893 = .ok (.iadd, 1) := by decide +kernel
theorem dL_law_894 : decode cL_law 894 = .ok (.iaload, 1) := by decide +kernel
theorem dL_law_895 : decode cL_law 895 = .ok (.aload_n 0, 1) := by decide +kernel
theorem dL_law_896 : decode cL_law 896 = .ok (.iload 5, 2) := by decide +kernel
theorem dL_law_898 : decode cL_law 898 = .ok (.iconst 2, 1) := by decide +kernel
theorem dL_law_899 : decode cL_law 899 = .ok (.iadd, 1) := by decide +kernel
theorem dL_law_900 : decode cL_law 900 = .ok (.iaload, 1) := by decide +kernel
theorem dL_law_901 : decode cL_law 901 = .ok (.aload_n 0, 1) := by decide +kernel
theorem dL_law_902 : decode cL_law 902 = .ok (.iload 5, 2) := by decide +kernel
theorem dL_law_904 : decode cL_law 904 = .ok (.iconst 3, 1) := by decide +kernel
theorem dL_law_905 : decode cL_law 905 = .ok (.iadd, 1) := by decide +kernel
theorem dL_law_906 : decode cL_law 906 = .ok (.iaload, 1) := by decide +kernel
theorem dL_law_907 : decode cL_law 907 = .ok (.i2c, 1) := by decide +kernel
theorem dL_law_908 : decode cL_law 908 = .ok (.aload_n 0, 1) := by decide +kernel
theorem dL_law_909 : decode cL_law 909 = .ok (.iload 5, 2) := by decide +kernel
theorem dL_law_911 : decode cL_law 911 = .ok (.iconst 4, 1) := by decide +kernel
theorem dL_law_912 : decode cL_law 912 = .ok (.iadd, 1) := by decide +kernel
theorem dL_law_913 : decode cL_law 913 = .ok (.iaload, 1) := by decide +kernel
theorem dL_law_914 : decode cL_law 914 = .ok (.aload_n 3, 1) := by decide +kernel
theorem dL_law_915 : decode cL_law 915 = .ok (.invokestatic 148, 3) := by decide +kernel
theorem dL_law_918 : decode cL_law 918 = .ok (.istore 6, 2) := by decide +kernel
theorem dL_law_920 : decode cL_law 920 = .ok (.aload_n 2, 1) := by decide +kernel
theorem dL_law_921 : decode cL_law 921 = .ok (.aload_n 0, 1) := by decide +kernel
theorem dL_law_922 : decode cL_law 922 = .ok (.iload 5, 2) := by decide +kernel
theorem dL_law_924 : decode cL_law 924 = .ok (.iconst 1, 1) := by decide +kernel
theorem dL_law_925 : decode cL_law 925 = .ok (.iadd, 1) := by decide +kernel
theorem dL_law_926 : decode cL_law 926 = .ok (.iaload, 1) := by decide +kernel
theorem dL_law_927 : decode cL_law 927 = .ok (.aload_n 0, 1) := by decide +kernel
theorem dL_law_928 : decode cL_law 928 = .ok (.iload 5, 2) := by decide +kernel
theorem dL_law_930 : decode cL_law 930 = .ok (.iconst 2, 1) := by decide +kernel
theorem dL_law_931 : decode cL_law 931 = .ok (.iadd, 1) := by decide +kernel
theorem dL_law_932 : decode cL_law 932 = .ok (.iaload, 1) := by decide +kernel
theorem dL_law_933 : decode cL_law 933 = .ok (.aload_n 0, 1) := by decide +kernel
theorem dL_law_934 : decode cL_law 934 = .ok (.iload 5, 2) := by decide +kernel
theorem dL_law_936 : decode cL_law 936 = .ok (.iconst 3, 1) := by decide +kernel
theorem dL_law_937 : decode cL_law 937 = .ok (.iadd, 1) := by decide +kernel
theorem dL_law_938 : decode cL_law 938 = .ok (.iaload, 1) := by decide +kernel
theorem dL_law_939 : decode cL_law 939 = .ok (.i2c, 1) := by decide +kernel
theorem dL_law_940 : decode cL_law 940 = .ok (.aload_n 0, 1) := by decide +kernel
theorem dL_law_941 : decode cL_law 941 = .ok (.iload 5, 2) := by decide +kernel
theorem dL_law_943 : decode cL_law 943 = .ok (.iconst 4, 1) := by decide +kernel
theorem dL_law_944 : decode cL_law 944 = .ok (.iadd, 1) := by decide +kernel
theorem dL_law_945 : decode cL_law 945 = .ok (.iaload, 1) := by decide +kernel
theorem dL_law_946 : decode cL_law 946 = .ok (.invokevirtual 151, 3) := by decide +kernel
theorem dL_law_949 : decode cL_law 949 = .ok (.istore 7, 2) := by decide +kernel
theorem dL_law_951 : decode cL_law 951 = .ok (.aload_n 2, 1) := by decide +kernel
theorem dL_law_952 : decode cL_law 952 = .ok (.invokevirtual 114, 3) := by decide +kernel
theorem dL_law_955 : decode cL_law 955 = .ok (.iload 6, 2) := by decide +kernel
theorem dL_law_957 : decode cL_law 957 = .ok (.if_icmp .eq 5, 3) := by decide +kernel
theorem dL_law_960 : decode cL_law 960 = .ok (.iconst 0, 1) := by decide +kernel
theorem dL_law_961 : decode cL_law 961 = .ok (.ireturn, 1) := by decide +kernel
theorem dL_law_962 : decode cL_law 962 = .ok (.iload 6, 2) := by decide +kernel
theorem dL_law_964 : decode cL_law 964 = .ok (.ifCond .ne 15, 3) := by decide +kernel
theorem dL_law_967 : decode cL_law 967 = .ok (.aload_n 3, 1) := by decide +kernel
theorem dL_law_968 : decode cL_law 968 = .ok (.iconst 0, 1) := by decide +kernel
theorem dL_law_969 : decode cL_law 969 = .ok (.laload, 1) := by decide +kernel
theorem dL_law_970 : decode cL_law 970 = .ok (.iload 7, 2) := by decide +kernel
theorem dL_law_972 : decode cL_law 972 = .ok (.i2l, 1) := by decide +kernel
theorem dL_law_973 : decode cL_law 973 = .ok (.lcmp, 1) := by decide +kernel
theorem dL_law_974 : decode cL_law 974 = .ok (.ifCond .eq 5, 3) := by decide +kernel
theorem dL_law_977 : decode cL_law 977 = .ok (.iconst 0, 1) := by decide +kernel
theorem dL_law_978 : decode cL_law 978 = .ok (.ireturn, 1) := by decide +kernel
theorem dL_law_979 : decode cL_law 979 = .ok (.goto 972, 3) := by decide +kernel
theorem dL_law_982 : decode cL_law 982 = .ok (.aload_n 1, 1) := by decide +kernel
theorem dL_law_983 : decode cL_law 983 = .ok (.aload_n 0, 1) := by decide +kernel
theorem dL_law_984 : decode cL_law 984 = .ok (.iload 5, 2) := by decide +kernel
theorem dL_law_986 : decode cL_law 986 = .ok (.iconst 1, 1) := by decide +kernel
theorem dL_law_987 : decode cL_law 987 = .ok (.iadd, 1) := by decide +kernel
theorem dL_law_988 : decode cL_law 988 = .ok (.iaload, 1) := by decide +kernel
theorem dL_law_989 : decode cL_law 989 = .ok (.aload_n 3, 1) := by decide +kernel
theorem dL_law_990 : decode cL_law 990 = .ok (.invokestatic 152, 3) := by decide +kernel
theorem dL_law_993 : decode cL_law 993 = .ok (.istore 6, 2) := by decide +kernel
theorem dL_law_995 : decode cL_law 995 = .ok (.aload_n 2, 1) := by decide +kernel
theorem dL_law_996 : decode cL_law 996 = .ok (.aload_n 0, 1) := by decide +kernel
theorem dL_law_997 : decode cL_law 997 = .ok (.iload 5, 2) := by decide +kernel
theorem dL_law_999 : decode cL_law 999 = .ok (.iconst 1, 1) := by decide +kernel
theorem dL_law_1000 : decode cL_law 1000 = .ok (.iadd, 1) := by decide +kernel
theorem dL_law_1001 : decode cL_law 1001 = .ok (.iaload, 1) := by decide +kernel
theorem dL_law_1002 : decode cL_law 1002 = .ok (.invokevirtual 154, 3) := by decide +kernel
theorem dL_law_1005 : decode cL_law 1005 = .ok (.istore 7, 2) := by decide +kernel
theorem dL_law_1007 : decode cL_law 1007 = .ok (.aload_n 2, 1) := by decide +kernel
theorem dL_law_1008 : decode cL_law 1008 = .ok (.invokevirtual 114, 3) := by decide +kernel
theorem dL_law_1011 : decode cL_law 1011 = .ok (.iload 6, 2) := by decide +kernel
theorem dL_law_1013 : decode cL_law 1013 = .ok (.if_icmp .eq 5, 3) := by decide +kernel
theorem dL_law_1016 : decode cL_law 1016 = .ok (.iconst 0, 1) := by decide +kernel
theorem dL_law_1017 : decode cL_law 1017 = .ok (.ireturn, 1) := by decide +kernel
theorem dL_law_1018 : decode cL_law 1018 = .ok (.iload 6, 2) := by decide +kernel
theorem dL_law_1020 : decode cL_law 1020 = .ok (.ifCond .ne 15, 3) := by decide +kernel
theorem dL_law_1023 : decode cL_law 1023 = .ok (.aload_n 3, 1) := by decide +kernel
theorem dL_law_1024 : decode cL_law 1024 = .ok (.iconst 0, 1) := by decide +kernel
theorem dL_law_1025 : decode cL_law 1025 = .ok (.laload, 1) := by decide +kernel
theorem dL_law_1026 : decode cL_law 1026 = .ok (.iload 7, 2) := by decide +kernel
theorem dL_law_1028 : decode cL_law 1028 = .ok (.i2l, 1) := by decide +kernel
theorem dL_law_1029 : decode cL_law 1029 = .ok (.lcmp, 1) := by decide +kernel
theorem dL_law_1030 : decode cL_law 1030 = .ok (.ifCond .eq 5, 3) := by decide +kernel
theorem dL_law_1033 : decode cL_law 1033 = .ok (.iconst 0, 1) := by decide +kernel
theorem dL_law_1034 : decode cL_law 1034 = .ok (.ireturn, 1) := by decide +kernel
theorem dL_law_1035 : decode cL_law 1035 = .ok (.goto 916, 3) := by decide +kernel
theorem dL_law_1038 : decode cL_law 1038 = .ok (.aload_n 1, 1) := by decide +kernel
theorem dL_law_1039 : decode cL_law 1039 = .ok (.aload_n 0, 1) := by decide +kernel
theorem dL_law_1040 : decode cL_law 1040 = .ok (.iload 5, 2) := by decide +kernel
theorem dL_law_1042 : decode cL_law 1042 = .ok (.iconst 1, 1) := by decide +kernel
theorem dL_law_1043 : decode cL_law 1043 = .ok (.iadd, 1) := by decide +kernel
theorem dL_law_1044 : decode cL_law 1044 = .ok (.iaload, 1) := by decide +kernel
theorem dL_law_1045 : decode cL_law 1045 = .ok (.aload_n 0, 1) := by decide +kernel
theorem dL_law_1046 : decode cL_law 1046 = .ok (.iload 5, 2) := by decide +kernel
theorem dL_law_1048 : decode cL_law 1048 = .ok (.iconst 2, 1) := by decide +kernel
theorem dL_law_1049 : decode cL_law 1049 = .ok (.iadd, 1) := by decide +kernel
theorem dL_law_1050 : decode cL_law 1050 = .ok (.iaload, 1) := by decide +kernel
theorem dL_law_1051 : decode cL_law 1051 = .ok (.aload_n 0, 1) := by decide +kernel
theorem dL_law_1052 : decode cL_law 1052 = .ok (.iload 5, 2) := by decide +kernel
theorem dL_law_1054 : decode cL_law 1054 = .ok (.iconst 3, 1) := by decide +kernel
theorem dL_law_1055 : decode cL_law 1055 = .ok (.iadd, 1) := by decide +kernel
theorem dL_law_1056 : decode cL_law 1056 = .ok (.iaload, 1) := by decide +kernel
theorem dL_law_1057 : decode cL_law 1057 = .ok (.aload_n 3, 1) := by decide +kernel
theorem dL_law_1058 : decode cL_law 1058 = .ok (.invokestatic 155, 3) := by decide +kernel
theorem dL_law_1061 : decode cL_law 1061 = .ok (.istore 6, 2) := by decide +kernel
theorem dL_law_1063 : decode cL_law 1063 = .ok (.aload_n 2, 1) := by decide +kernel
theorem dL_law_1064 : decode cL_law 1064 = .ok (.aload_n 0, 1) := by decide +kernel
theorem dL_law_1065 : decode cL_law 1065 = .ok (.iload 5, 2) := by decide +kernel
theorem dL_law_1067 : decode cL_law 1067 = .ok (.iconst 1, 1) := by decide +kernel
theorem dL_law_1068 : decode cL_law 1068 = .ok (.iadd, 1) := by decide +kernel
theorem dL_law_1069 : decode cL_law 1069 = .ok (.iaload, 1) := by decide +kernel
theorem dL_law_1070 : decode cL_law 1070 = .ok (.aload_n 0, 1) := by decide +kernel
theorem dL_law_1071 : decode cL_law 1071 = .ok (.iload 5, 2) := by decide +kernel
theorem dL_law_1073 : decode cL_law 1073 = .ok (.iconst 2, 1) := by decide +kernel
theorem dL_law_1074 : decode cL_law 1074 = .ok (.iadd, 1) := by decide +kernel
theorem dL_law_1075 : decode cL_law 1075 = .ok (.iaload, 1) := by decide +kernel
theorem dL_law_1076 : decode cL_law 1076 = .ok (.aload_n 0, 1) := by decide +kernel
theorem dL_law_1077 : decode cL_law 1077 = .ok (.iload 5, 2) := by decide +kernel
theorem dL_law_1079 : decode cL_law 1079 = .ok (.iconst 3, 1) := by decide +kernel
theorem dL_law_1080 : decode cL_law 1080 = .ok (.iadd, 1) := by decide +kernel
theorem dL_law_1081 : decode cL_law 1081 = .ok (.iaload, 1) := by decide +kernel
theorem dL_law_1082 : decode cL_law 1082 = .ok (.invokevirtual 158, 3) := by decide +kernel
theorem dL_law_1085 : decode cL_law 1085 = .ok (.istore 7, 2) := by decide +kernel
theorem dL_law_1087 : decode cL_law 1087 = .ok (.aload_n 2, 1) := by decide +kernel
theorem dL_law_1088 : decode cL_law 1088 = .ok (.invokevirtual 114, 3) := by decide +kernel
theorem dL_law_1091 : decode cL_law 1091 = .ok (.iload 6, 2) := by decide +kernel
theorem dL_law_1093 : decode cL_law 1093 = .ok (.if_icmp .eq 5, 3) := by decide +kernel
theorem dL_law_1096 : decode cL_law 1096 = .ok (.iconst 0, 1) := by decide +kernel
theorem dL_law_1097 : decode cL_law 1097 = .ok (.ireturn, 1) := by decide +kernel
theorem dL_law_1098 : decode cL_law 1098 = .ok (.iload 6, 2) := by decide +kernel
theorem dL_law_1100 : decode cL_law 1100 = .ok (.ifCond .ne 15, 3) := by decide +kernel
theorem dL_law_1103 : decode cL_law 1103 = .ok (.aload_n 3, 1) := by decide +kernel
theorem dL_law_1104 : decode cL_law 1104 = .ok (.iconst 0, 1) := by decide +kernel
theorem dL_law_1105 : decode cL_law 1105 = .ok (.laload, 1) := by decide +kernel
theorem dL_law_1106 : decode cL_law 1106 = .ok (.iload 7, 2) := by decide +kernel
theorem dL_law_1108 : decode cL_law 1108 = .ok (.i2l, 1) := by decide +kernel
theorem dL_law_1109 : decode cL_law 1109 = .ok (.lcmp, 1) := by decide +kernel
theorem dL_law_1110 : decode cL_law 1110 = .ok (.ifCond .eq 5, 3) := by decide +kernel
theorem dL_law_1113 : decode cL_law 1113 = .ok (.iconst 0, 1) := by decide +kernel
theorem dL_law_1114 : decode cL_law 1114 = .ok (.ireturn, 1) := by decide +kernel
theorem dL_law_1115 : decode cL_law 1115 = .ok (.goto 836, 3) := by decide +kernel
theorem dL_law_1118 : decode cL_law 1118 = .ok (.aload_n 1, 1) := by decide +kernel
theorem dL_law_1119 : decode cL_law 1119 = .ok (.aload_n 0, 1) := by decide +kernel
theorem dL_law_1120 : decode cL_law 1120 = .ok (.iload 5, 2) := by decide +kernel
theorem dL_law_1122 : decode cL_law 1122 = .ok (.iconst 1, 1) := by decide +kernel
theorem dL_law_1123 : decode cL_law 1123 = .ok (.iadd, 1) := by decide +kernel
theorem dL_law_1124 : decode cL_law 1124 = .ok (.iaload, 1) := by decide +kernel
theorem dL_law_1125 : decode cL_law 1125 = .ok (.aload_n 3, 1) := by decide +kernel
theorem dL_law_1126 : decode cL_law 1126 = .ok (.invokestatic 159, 3) := by decide +kernel
theorem dL_law_1129 : decode cL_law 1129 = .ok (.istore 6, 2) := by decide +kernel
theorem dL_law_1131 : decode cL_law 1131 = .ok (.aload_n 2, 1) := by decide +kernel
theorem dL_law_1132 : decode cL_law 1132 = .ok (.aload_n 0, 1) := by decide +kernel
theorem dL_law_1133 : decode cL_law 1133 = .ok (.iload 5, 2) := by decide +kernel
theorem dL_law_1135 : decode cL_law 1135 = .ok (.iconst 1, 1) := by decide +kernel
theorem dL_law_1136 : decode cL_law 1136 = .ok (.iadd, 1) := by decide +kernel
theorem dL_law_1137 : decode cL_law 1137 = .ok (.iaload, 1) := by decide +kernel
theorem dL_law_1138 : decode cL_law 1138 = .ok (.invokevirtual 161, 3) := by decide +kernel
theorem dL_law_1141 : decode cL_law 1141 = .ok (.istore 7, 2) := by decide +kernel
theorem dL_law_1143 : decode cL_law 1143 = .ok (.aload_n 2, 1) := by decide +kernel
theorem dL_law_1144 : decode cL_law 1144 = .ok (.invokevirtual 114, 3) := by decide +kernel
theorem dL_law_1147 : decode cL_law 1147 = .ok (.iload 6, 2) := by decide +kernel
theorem dL_law_1149 : decode cL_law 1149 = .ok (.if_icmp .eq 5, 3) := by decide +kernel
theorem dL_law_1152 : decode cL_law 1152 = .ok (.iconst 0, 1) := by decide +kernel
theorem dL_law_1153 : decode cL_law 1153 = .ok (.ireturn, 1) := by decide +kernel
theorem dL_law_1154 : decode cL_law 1154 = .ok (.iload 6, 2) := by decide +kernel
theorem dL_law_1156 : decode cL_law 1156 = .ok (.ifCond .ne 15, 3) := by decide +kernel
theorem dL_law_1159 : decode cL_law 1159 = .ok (.aload_n 3, 1) := by decide +kernel
theorem dL_law_1160 : decode cL_law 1160 = .ok (.iconst 0, 1) := by decide +kernel
theorem dL_law_1161 : decode cL_law 1161 = .ok (.laload, 1) := by decide +kernel
theorem dL_law_1162 : decode cL_law 1162 = .ok (.iload 7, 2) := by decide +kernel
theorem dL_law_1164 : decode cL_law 1164 = .ok (.i2l, 1) := by decide +kernel
theorem dL_law_1165 : decode cL_law 1165 = .ok (.lcmp, 1) := by decide +kernel
theorem dL_law_1166 : decode cL_law 1166 = .ok (.ifCond .eq 5, 3) := by decide +kernel
theorem dL_law_1169 : decode cL_law 1169 = .ok (.iconst 0, 1) := by decide +kernel
theorem dL_law_1170 : decode cL_law 1170 = .ok (.ireturn, 1) := by decide +kernel
theorem dL_law_1171 : decode cL_law 1171 = .ok (.goto 780, 3) := by decide +kernel
theorem dL_law_1174 : decode cL_law 1174 = .ok (.aload_n 1, 1) := by decide +kernel
theorem dL_law_1175 : decode cL_law 1175 = .ok (.aload_n 0, 1) := by decide +kernel
theorem dL_law_1176 : decode cL_law 1176 = .ok (.iload 5, 2) := by decide +kernel
theorem dL_law_1178 : decode cL_law 1178 = .ok (.iconst 1, 1) := by decide +kernel
theorem dL_law_1179 : decode cL_law 1179 = .ok (.iadd, 1) := by decide +kernel
theorem dL_law_1180 : decode cL_law 1180 = .ok (.iaload, 1) := by decide +kernel
theorem dL_law_1181 : decode cL_law 1181 = .ok (.aload_n 0, 1) := by decide +kernel
theorem dL_law_1182 : decode cL_law 1182 = .ok (.iload 5, 2) := by decide +kernel
theorem dL_law_1184 : decode cL_law 1184 = .ok (.iconst 2, 1) := by decide +kernel
theorem dL_law_1185 : decode cL_law 1185 = .ok (.iadd, 1) := by decide +kernel
theorem dL_law_1186 : decode cL_law 1186 = .ok (.iaload, 1) := by decide +kernel
theorem dL_law_1187 : decode cL_law 1187 = .ok (.aload_n 3, 1) := by decide +kernel
theorem dL_law_1188 : decode cL_law 1188 = .ok (.invokestatic 162, 3) := by decide +kernel
theorem dL_law_1191 : decode cL_law 1191 = .ok (.istore 6, 2) := by decide +kernel
theorem dL_law_1193 : decode cL_law 1193 = .ok (.aload_n 2, 1) := by decide +kernel
theorem dL_law_1194 : decode cL_law 1194 = .ok (.aload_n 0, 1) := by decide +kernel
theorem dL_law_1195 : decode cL_law 1195 = .ok (.iload 5, 2) := by decide +kernel
theorem dL_law_1197 : decode cL_law 1197 = .ok (.iconst 1, 1) := by decide +kernel
theorem dL_law_1198 : decode cL_law 1198 = .ok (.iadd, 1) := by decide +kernel
theorem dL_law_1199 : decode cL_law 1199 = .ok (.iaload, 1) := by decide +kernel
theorem dL_law_1200 : decode cL_law 1200 = .ok (.aload_n 0, 1) := by decide +kernel
theorem dL_law_1201 : decode cL_law 1201 = .ok (.iload 5, 2) := by decide +kernel
theorem dL_law_1203 : decode cL_law 1203 = .ok (.iconst 2, 1) := by decide +kernel
theorem dL_law_1204 : decode cL_law 1204 = .ok (.iadd, 1) := by decide +kernel
theorem dL_law_1205 : decode cL_law 1205 = .ok (.iaload, 1) := by decide +kernel
theorem dL_law_1206 : decode cL_law 1206 = .ok (.invokevirtual 164, 3) := by decide +kernel
theorem dL_law_1209 : decode cL_law 1209 = .ok (.istore 7, 2) := by decide +kernel
theorem dL_law_1211 : decode cL_law 1211 = .ok (.aload_n 2, 1) := by decide +kernel
theorem dL_law_1212 : decode cL_law 1212 = .ok (.invokevirtual 114, 3) := by decide +kernel
theorem dL_law_1215 : decode cL_law 1215 = .ok (.iload 6, 2) := by decide +kernel
theorem dL_law_1217 : decode cL_law 1217 = .ok (.if_icmp .eq 5, 3) := by decide +kernel
theorem dL_law_1220 : decode cL_law 1220 = .ok (.iconst 0, 1) := by decide +kernel
theorem dL_law_1221 : decode cL_law 1221 = .ok (.ireturn, 1) := by decide +kernel
theorem dL_law_1222 : decode cL_law 1222 = .ok (.iload 6, 2) := by decide +kernel
theorem dL_law_1224 : decode cL_law 1224 = .ok (.ifCond .ne 15, 3) := by decide +kernel
theorem dL_law_1227 : decode cL_law 1227 = .ok (.aload_n 3, 1) := by decide +kernel
theorem dL_law_1228 : decode cL_law 1228 = .ok (.iconst 0, 1) := by decide +kernel
theorem dL_law_1229 : decode cL_law 1229 = .ok (.laload, 1) := by decide +kernel
theorem dL_law_1230 : decode cL_law 1230 = .ok (.iload 7, 2) := by decide +kernel
theorem dL_law_1232 : decode cL_law 1232 = .ok (.i2l, 1) := by decide +kernel
theorem dL_law_1233 : decode cL_law 1233 = .ok (.lcmp, 1) := by decide +kernel
theorem dL_law_1234 : decode cL_law 1234 = .ok (.ifCond .eq 5, 3) := by decide +kernel
theorem dL_law_1237 : decode cL_law 1237 = .ok (.iconst 0, 1) := by decide +kernel
theorem dL_law_1238 : decode cL_law 1238 = .ok (.ireturn, 1) := by decide +kernel
theorem dL_law_1239 : decode cL_law 1239 = .ok (.goto 712, 3) := by decide +kernel
theorem dL_law_1242 : decode cL_law 1242 = .ok (.aload_n 1, 1) := by decide +kernel
theorem dL_law_1243 : decode cL_law 1243 = .ok (.invokevirtual 165, 3) := by decide +kernel
theorem dL_law_1246 : decode cL_law 1246 = .ok (.aload_n 2, 1) := by decide +kernel
theorem dL_law_1247 : decode cL_law 1247 = .ok (.invokevirtual 168, 3) := by decide +kernel
theorem dL_law_1250 : decode cL_law 1250 = .ok (.if_icmp .eq 701, 3) := by decide +kernel
theorem dL_law_1253 : decode cL_law 1253 = .ok (.iconst 0, 1) := by decide +kernel
theorem dL_law_1254 : decode cL_law 1254 = .ok (.ireturn, 1) := by decide +kernel
theorem dL_law_1255 : decode cL_law 1255 = .ok (.aload_n 1, 1) := by decide +kernel
theorem dL_law_1256 : decode cL_law 1256 = .ok (.aload_n 0, 1) := by decide +kernel
theorem dL_law_1257 : decode cL_law 1257 = .ok (.iload 5, 2) := by decide +kernel
theorem dL_law_1259 : decode cL_law 1259 = .ok (.iconst 1, 1) := by decide +kernel
theorem dL_law_1260 : decode cL_law 1260 = .ok (.iadd, 1) := by decide +kernel
theorem dL_law_1261 : decode cL_law 1261 = .ok (.iaload, 1) := by decide +kernel
theorem dL_law_1262 : decode cL_law 1262 = .ok (.aload_n 3, 1) := by decide +kernel
theorem dL_law_1263 : decode cL_law 1263 = .ok (.invokestatic 169, 3) := by decide +kernel
theorem dL_law_1266 : decode cL_law 1266 = .ok (.istore 6, 2) := by decide +kernel
theorem dL_law_1268 : decode cL_law 1268 = .ok (.aload_n 2, 1) := by decide +kernel
theorem dL_law_1269 : decode cL_law 1269 = .ok (.aload_n 0, 1) := by decide +kernel
theorem dL_law_1270 : decode cL_law 1270 = .ok (.iload 5, 2) := by decide +kernel
theorem dL_law_1272 : decode cL_law 1272 = .ok (.iconst 1, 1) := by decide +kernel
theorem dL_law_1273 : decode cL_law 1273 = .ok (.iadd, 1) := by decide +kernel
theorem dL_law_1274 : decode cL_law 1274 = .ok (.iaload, 1) := by decide +kernel
theorem dL_law_1275 : decode cL_law 1275 = .ok (.invokevirtual 171, 3) := by decide +kernel
theorem dL_law_1278 : decode cL_law 1278 = .ok (.istore 7, 2) := by decide +kernel
theorem dL_law_1280 : decode cL_law 1280 = .ok (.aload_n 2, 1) := by decide +kernel
theorem dL_law_1281 : decode cL_law 1281 = .ok (.invokevirtual 114, 3) := by decide +kernel
theorem dL_law_1284 : decode cL_law 1284 = .ok (.iload 6, 2) := by decide +kernel
theorem dL_law_1286 : decode cL_law 1286 = .ok (.if_icmp .eq 5, 3) := by decide +kernel
theorem dL_law_1289 : decode cL_law 1289 = .ok (.iconst 0, 1) := by decide +kernel
theorem dL_law_1290 : decode cL_law 1290 = .ok (.ireturn, 1) := by decide +kernel
theorem dL_law_1291 : decode cL_law 1291 = .ok (.iload 6, 2) := by decide +kernel
theorem dL_law_1293 : decode cL_law 1293 = .ok (.ifCond .ne 15, 3) := by decide +kernel
theorem dL_law_1296 : decode cL_law 1296 = .ok (.aload_n 3, 1) := by decide +kernel
theorem dL_law_1297 : decode cL_law 1297 = .ok (.iconst 0, 1) := by decide +kernel
theorem dL_law_1298 : decode cL_law 1298 = .ok (.laload, 1) := by decide +kernel
theorem dL_law_1299 : decode cL_law 1299 = .ok (.iload 7, 2) := by decide +kernel
theorem dL_law_1301 : decode cL_law 1301 = .ok (.i2l, 1) := by decide +kernel
theorem dL_law_1302 : decode cL_law 1302 = .ok (.lcmp, 1) := by decide +kernel
theorem dL_law_1303 : decode cL_law 1303 = .ok (.ifCond .eq 5, 3) := by decide +kernel
theorem dL_law_1306 : decode cL_law 1306 = .ok (.iconst 0, 1) := by decide +kernel
theorem dL_law_1307 : decode cL_law 1307 = .ok (.ireturn, 1) := by decide +kernel
theorem dL_law_1308 : decode cL_law 1308 = .ok (.goto 643, 3) := by decide +kernel
theorem dL_law_1311 : decode cL_law 1311 = .ok (.aload_n 1, 1) := by decide +kernel
theorem dL_law_1312 : decode cL_law 1312 = .ok (.invokevirtual 172, 3) := by decide +kernel
theorem dL_law_1315 : decode cL_law 1315 = .ok (.aload_n 2, 1) := by decide +kernel
theorem dL_law_1316 : decode cL_law 1316 = .ok (.invokevirtual 175, 3) := by decide +kernel
theorem dL_law_1319 : decode cL_law 1319 = .ok (.if_icmp .eq 632, 3) := by decide +kernel
theorem dL_law_1322 : decode cL_law 1322 = .ok (.iconst 0, 1) := by decide +kernel
theorem dL_law_1323 : decode cL_law 1323 = .ok (.ireturn, 1) := by decide +kernel
theorem dL_law_1324 : decode cL_law 1324 = .ok (.aload_n 1, 1) := by decide +kernel
theorem dL_law_1325 : decode cL_law 1325 = .ok (.aload_n 0, 1) := by decide +kernel
theorem dL_law_1326 : decode cL_law 1326 = .ok (.iload 5, 2) := by decide +kernel
theorem dL_law_1328 : decode cL_law 1328 = .ok (.iconst 1, 1) := by decide +kernel
theorem dL_law_1329 : decode cL_law 1329 = .ok (.iadd, 1) := by decide +kernel
theorem dL_law_1330 : decode cL_law 1330 = .ok (.iaload, 1) := by decide +kernel
theorem dL_law_1331 : decode cL_law 1331 = .ok (.i2c, 1) := by decide +kernel
theorem dL_law_1332 : decode cL_law 1332 = .ok (.aload_n 3, 1) := by decide +kernel
theorem dL_law_1333 : decode cL_law 1333 = .ok (.invokestatic 176, 3) := by decide +kernel
theorem dL_law_1336 : decode cL_law 1336 = .ok (.istore 6, 2) := by decide +kernel
theorem dL_law_1338 : decode cL_law 1338 = .ok (.aload_n 2, 1) := by decide +kernel
theorem dL_law_1339 : decode cL_law 1339 = .ok (.aload_n 0, 1) := by decide +kernel
theorem dL_law_1340 : decode cL_law 1340 = .ok (.iload 5, 2) := by decide +kernel
theorem dL_law_1342 : decode cL_law 1342 = .ok (.iconst 1, 1) := by decide +kernel
theorem dL_law_1343 : decode cL_law 1343 = .ok (.iadd, 1) := by decide +kernel
theorem dL_law_1344 : decode cL_law 1344 = .ok (.iaload, 1) := by decide +kernel
theorem dL_law_1345 : decode cL_law 1345 = .ok (.i2c, 1) := by decide +kernel
theorem dL_law_1346 : decode cL_law 1346 = .ok (.invokevirtual 179, 3) := by decide +kernel
theorem dL_law_1349 : decode cL_law 1349 = .ok (.istore 7, 2) := by decide +kernel
theorem dL_law_1351 : decode cL_law 1351 = .ok (.aload_n 2, 1) := by decide +kernel
theorem dL_law_1352 : decode cL_law 1352 = .ok (.invokevirtual 114, 3) := by decide +kernel
theorem dL_law_1355 : decode cL_law 1355 = .ok (.iload 6, 2) := by decide +kernel
theorem dL_law_1357 : decode cL_law 1357 = .ok (.if_icmp .eq 5, 3) := by decide +kernel
theorem dL_law_1360 : decode cL_law 1360 = .ok (.iconst 0, 1) := by decide +kernel
theorem dL_law_1361 : decode cL_law 1361 = .ok (.ireturn, 1) := by decide +kernel
theorem dL_law_1362 : decode cL_law 1362 = .ok (.iload 6, 2) := by decide +kernel
theorem dL_law_1364 : decode cL_law 1364 = .ok (.ifCond .ne 15, 3) := by decide +kernel
theorem dL_law_1367 : decode cL_law 1367 = .ok (.aload_n 3, 1) := by decide +kernel
theorem dL_law_1368 : decode cL_law 1368 = .ok (.iconst 0, 1) := by decide +kernel
theorem dL_law_1369 : decode cL_law 1369 = .ok (.laload, 1) := by decide +kernel
theorem dL_law_1370 : decode cL_law 1370 = .ok (.iload 7, 2) := by decide +kernel
theorem dL_law_1372 : decode cL_law 1372 = .ok (.i2l, 1) := by decide +kernel
theorem dL_law_1373 : decode cL_law 1373 = .ok (.lcmp, 1) := by decide +kernel
theorem dL_law_1374 : decode cL_law 1374 = .ok (.ifCond .eq 5, 3) := by decide +kernel
theorem dL_law_1377 : decode cL_law 1377 = .ok (.iconst 0, 1) := by decide +kernel
theorem dL_law_1378 : decode cL_law 1378 = .ok (.ireturn, 1) := by decide +kernel
theorem dL_law_1379 : decode cL_law 1379 = .ok (.goto 572, 3) := by decide +kernel
theorem dL_law_1382 : decode cL_law 1382 = .ok (.aload_n 1, 1) := by decide +kernel
theorem dL_law_1383 : decode cL_law 1383 = .ok (.invokevirtual 180, 3) := by decide +kernel
theorem dL_law_1386 : decode cL_law 1386 = .ok (.aload_n 2, 1) := by decide +kernel
theorem dL_law_1387 : decode cL_law 1387 = .ok (.invokevirtual 183, 3) := by decide +kernel
theorem dL_law_1390 : decode cL_law 1390 = .ok (.if_icmp .eq 561, 3) := by decide +kernel
theorem dL_law_1393 : decode cL_law 1393 = .ok (.iconst 0, 1) := by decide +kernel
theorem dL_law_1394 : decode cL_law 1394 = .ok (.ireturn, 1) := by decide +kernel
theorem dL_law_1395 : decode cL_law 1395 = .ok (.aload_n 1, 1) := by decide +kernel
theorem dL_law_1396 : decode cL_law 1396 = .ok (.aload_n 0, 1) := by decide +kernel
theorem dL_law_1397 : decode cL_law 1397 = .ok (.iload 5, 2) := by decide +kernel
theorem dL_law_1399 : decode cL_law 1399 = .ok (.iconst 1, 1) := by decide +kernel
theorem dL_law_1400 : decode cL_law 1400 = .ok (.iadd, 1) := by decide +kernel
theorem dL_law_1401 : decode cL_law 1401 = .ok (.iaload, 1) := by decide +kernel
theorem dL_law_1402 : decode cL_law 1402 = .ok (.aload_n 3, 1) := by decide +kernel
theorem dL_law_1403 : decode cL_law 1403 = .ok (.invokestatic 184, 3) := by decide +kernel
theorem dL_law_1406 : decode cL_law 1406 = .ok (.istore 6, 2) := by decide +kernel
theorem dL_law_1408 : decode cL_law 1408 = .ok (.aload_n 2, 1) := by decide +kernel
theorem dL_law_1409 : decode cL_law 1409 = .ok (.aload_n 0, 1) := by decide +kernel
theorem dL_law_1410 : decode cL_law 1410 = .ok (.iload 5, 2) := by decide +kernel
theorem dL_law_1412 : decode cL_law 1412 = .ok (.iconst 1, 1) := by decide +kernel
theorem dL_law_1413 : decode cL_law 1413 = .ok (.iadd, 1) := by decide +kernel
theorem dL_law_1414 : decode cL_law 1414 = .ok (.iaload, 1) := by decide +kernel
theorem dL_law_1415 : decode cL_law 1415 = .ok (.invokevirtual 186, 3) := by decide +kernel
theorem dL_law_1418 : decode cL_law 1418 = .ok (.istore 7, 2) := by decide +kernel
theorem dL_law_1420 : decode cL_law 1420 = .ok (.aload_n 2, 1) := by decide +kernel
theorem dL_law_1421 : decode cL_law 1421 = .ok (.invokevirtual 114, 3) := by decide +kernel
theorem dL_law_1424 : decode cL_law 1424 = .ok (.iload 6, 2) := by decide +kernel
theorem dL_law_1426 : decode cL_law 1426 = .ok (.if_icmp .eq 5, 3) := by decide +kernel
theorem dL_law_1429 : decode cL_law 1429 = .ok (.iconst 0, 1) := by decide +kernel
theorem dL_law_1430 : decode cL_law 1430 = .ok (.ireturn, 1) := by decide +kernel
theorem dL_law_1431 : decode cL_law 1431 = .ok (.iload 6, 2) := by decide +kernel
theorem dL_law_1433 : decode cL_law 1433 = .ok (.ifCond .ne 15, 3) := by decide +kernel
theorem dL_law_1436 : decode cL_law 1436 = .ok (.aload_n 3, 1) := by decide +kernel
theorem dL_law_1437 : decode cL_law 1437 = .ok (.iconst 0, 1) := by decide +kernel
theorem dL_law_1438 : decode cL_law 1438 = .ok (.laload, 1) := by decide +kernel
theorem dL_law_1439 : decode cL_law 1439 = .ok (.iload 7, 2) := by decide +kernel
theorem dL_law_1441 : decode cL_law 1441 = .ok (.i2l, 1) := by decide +kernel
theorem dL_law_1442 : decode cL_law 1442 = .ok (.lcmp, 1) := by decide +kernel
theorem dL_law_1443 : decode cL_law 1443 = .ok (.ifCond .eq 5, 3) := by decide +kernel
theorem dL_law_1446 : decode cL_law 1446 = .ok (.iconst 0, 1) := by decide +kernel
theorem dL_law_1447 : decode cL_law 1447 = .ok (.ireturn, 1) := by decide +kernel
theorem dL_law_1448 : decode cL_law 1448 = .ok (.goto 503, 3) := by decide +kernel
theorem dL_law_1451 : decode cL_law 1451 = .ok (.aload_n 1, 1) := by decide +kernel
theorem dL_law_1452 : decode cL_law 1452 = .ok (.aload_n 0, 1) := by decide +kernel
theorem dL_law_1453 : decode cL_law 1453 = .ok (.iload 5, 2) := by decide +kernel
theorem dL_law_1455 : decode cL_law 1455 = .ok (.iconst 1, 1) := by decide +kernel
theorem dL_law_1456 : decode cL_law 1456 = .ok (.iadd, 1) := by decide +kernel
theorem dL_law_1457 : decode cL_law 1457 = .ok (.iaload, 1) := by decide +kernel
theorem dL_law_1458 : decode cL_law 1458 = .ok (.aload_n 3, 1) := by decide +kernel
theorem dL_law_1459 : decode cL_law 1459 = .ok (.invokestatic 187, 3) := by decide +kernel
theorem dL_law_1462 : decode cL_law 1462 = .ok (.istore 6, 2) := by decide +kernel
theorem dL_law_1464 : decode cL_law 1464 = .ok (.aload_n 2, 1) := by decide +kernel
theorem dL_law_1465 : decode cL_law 1465 = .ok (.aload_n 0, 1) := by decide +kernel
theorem dL_law_1466 : decode cL_law 1466 = .ok (.iload 5, 2) := by decide +kernel
theorem dL_law_1468 : decode cL_law 1468 = .ok (.iconst 1, 1) := by decide +kernel
theorem dL_law_1469 : decode cL_law 1469 = .ok (.iadd, 1) := by decide +kernel
theorem dL_law_1470 : decode cL_law 1470 = .ok (.iaload, 1) := by decide +kernel
theorem dL_law_1471 : decode cL_law 1471 = .ok (.invokevirtual 189, 3) := by decide +kernel
theorem dL_law_1474 : decode cL_law 1474 = .ok (.istore 7, 2) := by decide +kernel
theorem dL_law_1476 : decode cL_law 1476 = .ok (.aload_n 2, 1) := by decide +kernel
theorem dL_law_1477 : decode cL_law 1477 = .ok (.invokevirtual 114, 3) := by decide +kernel
theorem dL_law_1480 : decode cL_law 1480 = .ok (.iload 6, 2) := by decide +kernel
theorem dL_law_1482 : decode cL_law 1482 = .ok (.if_icmp .eq 5, 3) := by decide +kernel
theorem dL_law_1485 : decode cL_law 1485 = .ok (.iconst 0, 1) := by decide +kernel
theorem dL_law_1486 : decode cL_law 1486 = .ok (.ireturn, 1) := by decide +kernel
theorem dL_law_1487 : decode cL_law 1487 = .ok (.iload 6, 2) := by decide +kernel
theorem dL_law_1489 : decode cL_law 1489 = .ok (.ifCond .ne 15, 3) := by decide +kernel
theorem dL_law_1492 : decode cL_law 1492 = .ok (.aload_n 3, 1) := by decide +kernel
theorem dL_law_1493 : decode cL_law 1493 = .ok (.iconst 0, 1) := by decide +kernel
theorem dL_law_1494 : decode cL_law 1494 = .ok (.laload, 1) := by decide +kernel
theorem dL_law_1495 : decode cL_law 1495 = .ok (.iload 7, 2) := by decide +kernel
theorem dL_law_1497 : decode cL_law 1497 = .ok (.i2l, 1) := by decide +kernel
theorem dL_law_1498 : decode cL_law 1498 = .ok (.lcmp, 1) := by decide +kernel
theorem dL_law_1499 : decode cL_law 1499 = .ok (.ifCond .eq 5, 3) := by decide +kernel
theorem dL_law_1502 : decode cL_law 1502 = .ok (.iconst 0, 1) := by decide +kernel
theorem dL_law_1503 : decode cL_law 1503 = .ok (.ireturn, 1) := by decide +kernel
theorem dL_law_1504 : decode cL_law 1504 = .ok (.goto 447, 3) := by decide +kernel
theorem dL_law_1507 : decode cL_law 1507 = .ok (.aload_n 1, 1) := by decide +kernel
theorem dL_law_1508 : decode cL_law 1508 = .ok (.aload_n 0, 1) := by decide +kernel
theorem dL_law_1509 : decode cL_law 1509 = .ok (.iload 5, 2) := by decide +kernel
theorem dL_law_1511 : decode cL_law 1511 = .ok (.iconst 1, 1) := by decide +kernel
theorem dL_law_1512 : decode cL_law 1512 = .ok (.iadd, 1) := by decide +kernel
theorem dL_law_1513 : decode cL_law 1513 = .ok (.iaload, 1) := by decide +kernel
theorem dL_law_1514 : decode cL_law 1514 = .ok (.aload_n 0, 1) := by decide +kernel
theorem dL_law_1515 : decode cL_law 1515 = .ok (.iload 5, 2) := by decide +kernel
theorem dL_law_1517 : decode cL_law 1517 = .ok (.iconst 2, 1) := by decide +kernel
theorem dL_law_1518 : decode cL_law 1518 = .ok (.iadd, 1) := by decide +kernel
theorem dL_law_1519 : decode cL_law 1519 = .ok (.iaload, 1) := by decide +kernel
theorem dL_law_1520 : decode cL_law 1520 = .ok (.aload_n 3, 1) := by decide +kernel
theorem dL_law_1521 : decode cL_law 1521 = .ok (.invokestatic 190, 3) := by decide +kernel
theorem dL_law_1524 : decode cL_law 1524 = .ok (.istore 6, 2) := by decide +kernel
theorem dL_law_1526 : decode cL_law 1526 = .ok (.aload_n 2, 1) := by decide +kernel
theorem dL_law_1527 : decode cL_law 1527 = .ok (.aload_n 0, 1) := by decide +kernel
theorem dL_law_1528 : decode cL_law 1528 = .ok (.iload 5, 2) := by decide +kernel
theorem dL_law_1530 : decode cL_law 1530 = .ok (.iconst 1, 1) := by decide +kernel
theorem dL_law_1531 : decode cL_law 1531 = .ok (.iadd, 1) := by decide +kernel
theorem dL_law_1532 : decode cL_law 1532 = .ok (.iaload, 1) := by decide +kernel
theorem dL_law_1533 : decode cL_law 1533 = .ok (.aload_n 0, 1) := by decide +kernel
theorem dL_law_1534 : decode cL_law 1534 = .ok (.iload 5, 2) := by decide +kernel
theorem dL_law_1536 : decode cL_law 1536 = .ok (.iconst 2, 1) := by decide +kernel
theorem dL_law_1537 : decode cL_law 1537 = .ok (.iadd, 1) := by decide +kernel
theorem dL_law_1538 : decode cL_law 1538 = .ok (.iaload, 1) := by decide +kernel
theorem dL_law_1539 : decode cL_law 1539 = .ok (.invokevirtual 192, 3) := by decide +kernel
theorem dL_law_1542 : decode cL_law 1542 = .ok (.istore 7, 2) := by decide +kernel
theorem dL_law_1544 : decode cL_law 1544 = .ok (.aload_n 2, 1) := by decide +kernel
theorem dL_law_1545 : decode cL_law 1545 = .ok (.invokevirtual 114, 3) := by decide +kernel
theorem dL_law_1548 : decode cL_law 1548 = .ok (.iload 6, 2) := by decide +kernel
theorem dL_law_1550 : decode cL_law 1550 = .ok (.if_icmp .eq 5, 3) := by decide +kernel
theorem dL_law_1553 : decode cL_law 1553 = .ok (.iconst 0, 1) := by decide +kernel
theorem dL_law_1554 : decode cL_law 1554 = .ok (.ireturn, 1) := by decide +kernel
theorem dL_law_1555 : decode cL_law 1555 = .ok (.iload 6, 2) := by decide +kernel
theorem dL_law_1557 : decode cL_law 1557 = .ok (.ifCond .ne 15, 3) := by decide +kernel
theorem dL_law_1560 : decode cL_law 1560 = .ok (.aload_n 3, 1) := by decide +kernel
theorem dL_law_1561 : decode cL_law 1561 = .ok (.iconst 0, 1) := by decide +kernel
theorem dL_law_1562 : decode cL_law 1562 = .ok (.laload, 1) := by decide +kernel
theorem dL_law_1563 : decode cL_law 1563 = .ok (.iload 7, 2) := by decide +kernel
theorem dL_law_1565 : decode cL_law 1565 = .ok (.i2l, 1) := by decide +kernel
theorem dL_law_1566 : decode cL_law 1566 = .ok (.lcmp, 1) := by decide +kernel
theorem dL_law_1567 : decode cL_law 1567 = .ok (.ifCond .eq 5, 3) := by decide +kernel
theorem dL_law_1570 : decode cL_law 1570 = .ok (.iconst 0, 1) := by decide +kernel
theorem dL_law_1571 : decode cL_law 1571 = .ok (.ireturn, 1) := by decide +kernel
theorem dL_law_1572 : decode cL_law 1572 = .ok (.goto 379, 3) := by decide +kernel
theorem dL_law_1575 : decode cL_law 1575 = .ok (.aload_n 1, 1) := by decide +kernel
theorem dL_law_1576 : decode cL_law 1576 = .ok (.aload_n 0, 1) := by decide +kernel
theorem dL_law_1577 : decode cL_law 1577 = .ok (.iload 5, 2) := by decide +kernel
theorem dL_law_1579 : decode cL_law 1579 = .ok (.iconst 1, 1) := by decide +kernel
theorem dL_law_1580 : decode cL_law 1580 = .ok (.iadd, 1) := by decide +kernel
theorem dL_law_1581 : decode cL_law 1581 = .ok (.iaload, 1) := by decide +kernel
theorem dL_law_1582 : decode cL_law 1582 = .ok (.aload_n 0, 1) := by decide +kernel
theorem dL_law_1583 : decode cL_law 1583 = .ok (.iload 5, 2) := by decide +kernel
theorem dL_law_1585 : decode cL_law 1585 = .ok (.iconst 2, 1) := by decide +kernel
theorem dL_law_1586 : decode cL_law 1586 = .ok (.iadd, 1) := by decide +kernel
theorem dL_law_1587 : decode cL_law 1587 = .ok (.iaload, 1) := by decide +kernel
theorem dL_law_1588 : decode cL_law 1588 = .ok (.aload_n 3, 1) := by decide +kernel
theorem dL_law_1589 : decode cL_law 1589 = .ok (.invokestatic 193, 3) := by decide +kernel
theorem dL_law_1592 : decode cL_law 1592 = .ok (.istore 6, 2) := by decide +kernel
theorem dL_law_1594 : decode cL_law 1594 = .ok (.aload_n 2, 1) := by decide +kernel
theorem dL_law_1595 : decode cL_law 1595 = .ok (.aload_n 0, 1) := by decide +kernel
theorem dL_law_1596 : decode cL_law 1596 = .ok (.iload 5, 2) := by decide +kernel
theorem dL_law_1598 : decode cL_law 1598 = .ok (.iconst 1, 1) := by decide +kernel
theorem dL_law_1599 : decode cL_law 1599 = .ok (.iadd, 1) := by decide +kernel
theorem dL_law_1600 : decode cL_law 1600 = .ok (.iaload, 1) := by decide +kernel
theorem dL_law_1601 : decode cL_law 1601 = .ok (.aload_n 0, 1) := by decide +kernel
theorem dL_law_1602 : decode cL_law 1602 = .ok (.iload 5, 2) := by decide +kernel
theorem dL_law_1604 : decode cL_law 1604 = .ok (.iconst 2, 1) := by decide +kernel
theorem dL_law_1605 : decode cL_law 1605 = .ok (.iadd, 1) := by decide +kernel
theorem dL_law_1606 : decode cL_law 1606 = .ok (.iaload, 1) := by decide +kernel
theorem dL_law_1607 : decode cL_law 1607 = .ok (.invokevirtual 195, 3) := by decide +kernel
theorem dL_law_1610 : decode cL_law 1610 = .ok (.istore 7, 2) := by decide +kernel
theorem dL_law_1612 : decode cL_law 1612 = .ok (.aload_n 2, 1) := by decide +kernel
theorem dL_law_1613 : decode cL_law 1613 = .ok (.invokevirtual 114, 3) := by decide +kernel
theorem dL_law_1616 : decode cL_law 1616 = .ok (.iload 6, 2) := by decide +kernel
theorem dL_law_1618 : decode cL_law 1618 = .ok (.if_icmp .eq 5, 3) := by decide +kernel
theorem dL_law_1621 : decode cL_law 1621 = .ok (.iconst 0, 1) := by decide +kernel
theorem dL_law_1622 : decode cL_law 1622 = .ok (.ireturn, 1) := by decide +kernel
theorem dL_law_1623 : decode cL_law 1623 = .ok (.iload 6, 2) := by decide +kernel
theorem dL_law_1625 : decode cL_law 1625 = .ok (.ifCond .ne 22, 3) := by decide +kernel
theorem dL_law_1628 : decode cL_law 1628 = .ok (.aload_n 3, 1) := by decide +kernel
theorem dL_law_1629 : decode cL_law 1629 = .ok (.iconst 0, 1) := by decide +kernel
theorem dL_law_1630 : decode cL_law 1630 = .ok (.laload, 1) := by decide +kernel
theorem dL_law_1631 : decode cL_law 1631 = .ok (.iload 7, 2) := by decide +kernel
theorem dL_law_1633 : decode cL_law 1633 = .ok (.ifCond .eq 7, 3) := by decide +kernel
theorem dL_law_1636 : decode cL_law 1636 = .ok (.lconst 1, 1) := by decide +kernel
theorem dL_law_1637 : decode cL_law 1637 = .ok (.goto 4, 3) := by decide +kernel
theorem dL_law_1640 : decode cL_law 1640 = .ok (.lconst 0, 1) := by decide +kernel
theorem dL_law_1641 : decode cL_law 1641 = .ok (.lcmp, 1) := by decide +kernel
theorem dL_law_1642 : decode cL_law 1642 = .ok (.ifCond .eq 5, 3) := by decide +kernel
theorem dL_law_1645 : decode cL_law 1645 = .ok (.iconst 0, 1) := by decide +kernel
theorem dL_law_1646 : decode cL_law 1646 = .ok (.ireturn, 1) := by decide +kernel
theorem dL_law_1647 : decode cL_law 1647 = .ok (.goto 304, 3) := by decide +kernel
theorem dL_law_1650 : decode cL_law 1650 = .ok (.aload_n 1, 1) := by decide +kernel
theorem dL_law_1651 : decode cL_law 1651 = .ok (.aload_n 0, 1) := by decide +kernel
theorem dL_law_1652 : decode cL_law 1652 = .ok (.iload 5, 2) := by decide +kernel
theorem dL_law_1654 : decode cL_law 1654 = .ok (.iconst 1, 1) := by decide +kernel
theorem dL_law_1655 : decode cL_law 1655 = .ok (.iadd, 1) := by decide +kernel
theorem dL_law_1656 : decode cL_law 1656 = .ok (.iaload, 1) := by decide +kernel
theorem dL_law_1657 : decode cL_law 1657 = .ok (.aload_n 0, 1) := by decide +kernel
theorem dL_law_1658 : decode cL_law 1658 = .ok (.iload 5, 2) := by decide +kernel
theorem dL_law_1660 : decode cL_law 1660 = .ok (.iconst 2, 1) := by decide +kernel
theorem dL_law_1661 : decode cL_law 1661 = .ok (.iadd, 1) := by decide +kernel
theorem dL_law_1662 : decode cL_law 1662 = .ok (.iaload, 1) := by decide +kernel
theorem dL_law_1663 : decode cL_law 1663 = .ok (.aload_n 3, 1) := by decide +kernel
theorem dL_law_1664 : decode cL_law 1664 = .ok (.invokestatic 196, 3) := by decide +kernel
theorem dL_law_1667 : decode cL_law 1667 = .ok (.istore 6, 2) := by decide +kernel
theorem dL_law_1669 : decode cL_law 1669 = .ok (.aload_n 2, 1) := by decide +kernel
theorem dL_law_1670 : decode cL_law 1670 = .ok (.aload_n 0, 1) := by decide +kernel
theorem dL_law_1671 : decode cL_law 1671 = .ok (.iload 5, 2) := by decide +kernel
theorem dL_law_1673 : decode cL_law 1673 = .ok (.iconst 1, 1) := by decide +kernel
theorem dL_law_1674 : decode cL_law 1674 = .ok (.iadd, 1) := by decide +kernel
theorem dL_law_1675 : decode cL_law 1675 = .ok (.iaload, 1) := by decide +kernel
theorem dL_law_1676 : decode cL_law 1676 = .ok (.aload_n 0, 1) := by decide +kernel
theorem dL_law_1677 : decode cL_law 1677 = .ok (.iload 5, 2) := by decide +kernel
theorem dL_law_1679 : decode cL_law 1679 = .ok (.iconst 2, 1) := by decide +kernel
theorem dL_law_1680 : decode cL_law 1680 = .ok (.iadd, 1) := by decide +kernel
theorem dL_law_1681 : decode cL_law 1681 = .ok (.iaload, 1) := by decide +kernel
theorem dL_law_1682 : decode cL_law 1682 = .ok (.invokevirtual 198, 3) := by decide +kernel
theorem dL_law_1685 : decode cL_law 1685 = .ok (.istore 7, 2) := by decide +kernel
theorem dL_law_1687 : decode cL_law 1687 = .ok (.aload_n 2, 1) := by decide +kernel
theorem dL_law_1688 : decode cL_law 1688 = .ok (.invokevirtual 114, 3) := by decide +kernel
theorem dL_law_1691 : decode cL_law 1691 = .ok (.iload 6, 2) := by decide +kernel
theorem dL_law_1693 : decode cL_law 1693 = .ok (.if_icmp .eq 5, 3) := by decide +kernel
theorem dL_law_1696 : decode cL_law 1696 = .ok (.iconst 0, 1) := by decide +kernel
theorem dL_law_1697 : decode cL_law 1697 = .ok (.ireturn, 1) := by decide +kernel
theorem dL_law_1698 : decode cL_law 1698 = .ok (.iload 6, 2) := by decide +kernel
theorem dL_law_1700 : decode cL_law 1700 = .ok (.ifCond .ne 22, 3) := by decide +kernel
theorem dL_law_1703 : decode cL_law 1703 = .ok (.aload_n 3, 1) := by decide +kernel
theorem dL_law_1704 : decode cL_law 1704 = .ok (.iconst 0, 1) := by decide +kernel
theorem dL_law_1705 : decode cL_law 1705 = .ok (.laload, 1) := by decide +kernel
theorem dL_law_1706 : decode cL_law 1706 = .ok (.iload 7, 2) := by decide +kernel
theorem dL_law_1708 : decode cL_law 1708 = .ok (.ifCond .eq 7, 3) := by decide +kernel
theorem dL_law_1711 : decode cL_law 1711 = .ok (.lconst 1, 1) := by decide +kernel
theorem dL_law_1712 : decode cL_law 1712 = .ok (.goto 4, 3) := by decide +kernel
theorem dL_law_1715 : decode cL_law 1715 = .ok (.lconst 0, 1) := by decide +kernel
theorem dL_law_1716 : decode cL_law 1716 = .ok (.lcmp, 1) := by decide +kernel
theorem dL_law_1717 : decode cL_law 1717 = .ok (.ifCond .eq 5, 3) := by decide +kernel
theorem dL_law_1720 : decode cL_law 1720 = .ok (.iconst 0, 1) := by decide +kernel
theorem dL_law_1721 : decode cL_law 1721 = .ok (.ireturn, 1) := by decide +kernel
theorem dL_law_1722 : decode cL_law 1722 = .ok (.goto 229, 3) := by decide +kernel
theorem dL_law_1725 : decode cL_law 1725 = .ok (.aload_n 1, 1) := by decide +kernel
theorem dL_law_1726 : decode cL_law 1726 = .ok (.aload_n 0, 1) := by decide +kernel
theorem dL_law_1727 : decode cL_law 1727 = .ok (.iload 5, 2) := by decide +kernel
theorem dL_law_1729 : decode cL_law 1729 = .ok (.iconst 1, 1) := by decide +kernel
theorem dL_law_1730 : decode cL_law 1730 = .ok (.iadd, 1) := by decide +kernel
theorem dL_law_1731 : decode cL_law 1731 = .ok (.iaload, 1) := by decide +kernel
theorem dL_law_1732 : decode cL_law 1732 = .ok (.aload_n 3, 1) := by decide +kernel
theorem dL_law_1733 : decode cL_law 1733 = .ok (.invokestatic 199, 3) := by decide +kernel
theorem dL_law_1736 : decode cL_law 1736 = .ok (.istore 6, 2) := by decide +kernel
theorem dL_law_1738 : decode cL_law 1738 = .ok (.aload_n 2, 1) := by decide +kernel
theorem dL_law_1739 : decode cL_law 1739 = .ok (.aload_n 0, 1) := by decide +kernel
theorem dL_law_1740 : decode cL_law 1740 = .ok (.iload 5, 2) := by decide +kernel
theorem dL_law_1742 : decode cL_law 1742 = .ok (.iconst 1, 1) := by decide +kernel
theorem dL_law_1743 : decode cL_law 1743 = .ok (.iadd, 1) := by decide +kernel
theorem dL_law_1744 : decode cL_law 1744 = .ok (.iaload, 1) := by decide +kernel
theorem dL_law_1745 : decode cL_law 1745 = .ok (.invokevirtual 201, 3) := by decide +kernel
theorem dL_law_1748 : decode cL_law 1748 = .ok (.istore 7, 2) := by decide +kernel
theorem dL_law_1750 : decode cL_law 1750 = .ok (.aload_n 2, 1) := by decide +kernel
theorem dL_law_1751 : decode cL_law 1751 = .ok (.invokevirtual 114, 3) := by decide +kernel
theorem dL_law_1754 : decode cL_law 1754 = .ok (.iload 6, 2) := by decide +kernel
theorem dL_law_1756 : decode cL_law 1756 = .ok (.if_icmp .eq 5, 3) := by decide +kernel
theorem dL_law_1759 : decode cL_law 1759 = .ok (.iconst 0, 1) := by decide +kernel
theorem dL_law_1760 : decode cL_law 1760 = .ok (.ireturn, 1) := by decide +kernel
theorem dL_law_1761 : decode cL_law 1761 = .ok (.iload 6, 2) := by decide +kernel
theorem dL_law_1763 : decode cL_law 1763 = .ok (.ifCond .ne 15, 3) := by decide +kernel
theorem dL_law_1766 : decode cL_law 1766 = .ok (.aload_n 3, 1) := by decide +kernel
theorem dL_law_1767 : decode cL_law 1767 = .ok (.iconst 0, 1) := by decide +kernel
theorem dL_law_1768 : decode cL_law 1768 = .ok (.laload, 1) := by decide +kernel
theorem dL_law_1769 : decode cL_law 1769 = .ok (.iload 7, 2) := by decide +kernel
theorem dL_law_1771 : decode cL_law 1771 = .ok (.i2l, 1) := by decide +kernel
theorem dL_law_1772 : decode cL_law 1772 = .ok (.lcmp, 1) := by decide +kernel
theorem dL_law_1773 : decode cL_law 1773 = .ok (.ifCond .eq 5, 3) := by decide +kernel
theorem dL_law_1776 : decode cL_law 1776 = .ok (.iconst 0, 1) := by decide +kernel
theorem dL_law_1777 : decode cL_law 1777 = .ok (.ireturn, 1) := by decide +kernel
theorem dL_law_1778 : decode cL_law 1778 = .ok (.goto 173, 3) := by decide +kernel
theorem dL_law_1781 : decode cL_law 1781 = .ok (.aload_n 1, 1) := by decide +kernel
theorem dL_law_1782 : decode cL_law 1782 = .ok (.invokevirtual 202, 3) := by decide +kernel
theorem dL_law_1785 : decode cL_law 1785 = .ok (.aload_n 2, 1) := by decide +kernel
theorem dL_law_1786 : decode cL_law 1786 = .ok (.invokevirtual 206, 3) := by decide +kernel
theorem dL_law_1789 : decode cL_law 1789 = .ok (.lcmp, 1) := by decide +kernel
theorem dL_law_1790 : decode cL_law 1790 = .ok (.ifCond .eq 161, 3) := by decide +kernel
theorem dL_law_1793 : decode cL_law 1793 = .ok (.iconst 0, 1) := by decide +kernel
theorem dL_law_1794 : decode cL_law 1794 = .ok (.ireturn, 1) := by decide +kernel
theorem dL_law_1795 : decode cL_law 1795 = .ok (.aload_n 1, 1) := by decide +kernel
theorem dL_law_1796 : decode cL_law 1796 = .ok (.aload 4, 2) := by decide +kernel
theorem dL_law_1798 : decode cL_law 1798 = .ok (.invokestatic 207, 3) := by decide +kernel
theorem dL_law_1801 : decode cL_law 1801 = .ok (.istore 6, 2) := by decide +kernel
theorem dL_law_1803 : decode cL_law 1803 = .ok (.aload_n 2, 1) := by decide +kernel
theorem dL_law_1804 : decode cL_law 1804 = .ok (.invokevirtual 210, 3) := by decide +kernel
theorem dL_law_1807 : decode cL_law 1807 = .ok (.fstore 7, 2) := by decide +kernel
theorem dL_law_1809 : decode cL_law 1809 = .ok (.aload_n 2, 1) := by decide +kernel
theorem dL_law_1810 : decode cL_law 1810 = .ok (.invokevirtual 114, 3) := by decide +kernel
theorem dL_law_1813 : decode cL_law 1813 = .ok (.iload 6, 2) := by decide +kernel
theorem dL_law_1815 : decode cL_law 1815 = .ok (.if_icmp .eq 5, 3) := by decide +kernel
theorem dL_law_1818 : decode cL_law 1818 = .ok (.iconst 0, 1) := by decide +kernel
theorem dL_law_1819 : decode cL_law 1819 = .ok (.ireturn, 1) := by decide +kernel
theorem dL_law_1820 : decode cL_law 1820 = .ok (.iload 6, 2) := by decide +kernel
theorem dL_law_1822 : decode cL_law 1822 = .ok (.ifCond .ne 36, 3) := by decide +kernel
theorem dL_law_1825 : decode cL_law 1825 = .ok (.aload 4, 2) := by decide +kernel
theorem dL_law_1827 : decode cL_law 1827 = .ok (.iconst 0, 1) := by decide +kernel
theorem dL_law_1828 : decode cL_law 1828 = .ok (.daload, 1) := by decide +kernel
theorem dL_law_1829 : decode cL_law 1829 = .ok (.fload 7, 2) := by decide +kernel
theorem dL_law_1831 : decode cL_law 1831 = .ok (.f2d, 1) := by decide +kernel
theorem dL_law_1832 : decode cL_law 1832 = .ok (.dcmp .l, 1) := by decide +kernel
theorem dL_law_1833 : decode cL_law 1833 = .ok (.ifCond .eq 25, 3) := by decide +kernel
theorem dL_law_1836 : decode cL_law 1836 = .ok (.aload 4, 2) := by decide +kernel
theorem dL_law_1838 : decode cL_law 1838 = .ok (.iconst 0, 1) := by decide +kernel
theorem dL_law_1839 : decode cL_law 1839 = .ok (.daload, 1) := by decide +kernel
theorem dL_law_1840 : decode cL_law 1840 = .ok (.aload 4, 2) := by decide +kernel
theorem dL_law_1842 : decode cL_law 1842 = .ok (.iconst 0, 1) := by decide +kernel
theorem dL_law_1843 : decode cL_law 1843 = .ok (.daload, 1) := by decide +kernel
theorem dL_law_1844 : decode cL_law 1844 = .ok (.dcmp .l, 1) := by decide +kernel
theorem dL_law_1845 : decode cL_law 1845 = .ok (.ifCond .eq 11, 3) := by decide +kernel
theorem dL_law_1848 : decode cL_law 1848 = .ok (.fload 7, 2) := by decide +kernel
theorem dL_law_1850 : decode cL_law 1850 = .ok (.fload 7, 2) := by decide +kernel
theorem dL_law_1852 : decode cL_law 1852 = .ok (.fcmp .l, 1) := by decide +kernel
theorem dL_law_1853 : decode cL_law 1853 = .ok (.ifCond .ne 5, 3) := by decide +kernel
theorem dL_law_1856 : decode cL_law 1856 = .ok (.iconst 0, 1) := by decide +kernel
theorem dL_law_1857 : decode cL_law 1857 = .ok (.ireturn, 1) := by decide +kernel
theorem dL_law_1858 : decode cL_law 1858 = .ok (.goto 93, 3) := by decide +kernel
theorem dL_law_1861 : decode cL_law 1861 = .ok (.aload_n 1, 1) := by decide +kernel
theorem dL_law_1862 : decode cL_law 1862 = .ok (.aload_n 0, 1) := by decide +kernel
theorem dL_law_1863 : decode cL_law 1863 = .ok (.iload 5, 2) := by decide +kernel
theorem dL_law_1865 : decode cL_law 1865 = .ok (.iconst 1, 1) := by decide +kernel
theorem dL_law_1866 : decode cL_law 1866 = .ok (.iadd, 1) := by decide +kernel
theorem dL_law_1867 : decode cL_law 1867 = .ok (.iaload, 1) := by decide +kernel
theorem dL_law_1868 : decode cL_law 1868 = .ok (.aload 4, 2) := by decide +kernel
theorem dL_law_1870 : decode cL_law 1870 = .ok (.invokestatic 211, 3) := by decide +kernel
theorem dL_law_1873 : decode cL_law 1873 = .ok (.istore 6, 2) := by decide +kernel
theorem dL_law_1875 : decode cL_law 1875 = .ok (.aload_n 2, 1) := by decide +kernel
theorem dL_law_1876 : decode cL_law 1876 = .ok (.aload_n 0, 1) := by decide +kernel
theorem dL_law_1877 : decode cL_law 1877 = .ok (.iload 5, 2) := by decide +kernel
theorem dL_law_1879 : decode cL_law 1879 = .ok (.iconst 1, 1) := by decide +kernel
theorem dL_law_1880 : decode cL_law 1880 = .ok (.iadd, 1) := by decide +kernel
theorem dL_law_1881 : decode cL_law 1881 = .ok (.iaload, 1) := by decide +kernel
theorem dL_law_1882 : decode cL_law 1882 = .ok (.invokevirtual 214, 3) := by decide +kernel
theorem dL_law_1885 : decode cL_law 1885 = .ok (.dstore 7, 2) := by decide +kernel
theorem dL_law_1887 : decode cL_law 1887 = .ok (.aload_n 2, 1) := by decide +kernel
theorem dL_law_1888 : decode cL_law 1888 = .ok (.invokevirtual 114, 3) := by decide +kernel
theorem dL_law_1891 : decode cL_law 1891 = .ok (.iload 6, 2) := by decide +kernel
theorem dL_law_1893 : decode cL_law 1893 = .ok (.if_icmp .eq 5, 3) := by decide +kernel
theorem dL_law_1896 : decode cL_law 1896 = .ok (.iconst 0, 1) := by decide +kernel
theorem dL_law_1897 : decode cL_law 1897 = .ok (.ireturn, 1) := by decide +kernel
theorem dL_law_1898 : decode cL_law 1898 = .ok (.iload 6, 2) := by decide +kernel
theorem dL_law_1900 : decode cL_law 1900 = .ok (.ifCond .ne 35, 3) := by decide +kernel
theorem dL_law_1903 : decode cL_law 1903 = .ok (.aload 4, 2) := by decide +kernel
theorem dL_law_1905 : decode cL_law 1905 = .ok (.iconst 0, 1) := by decide +kernel
theorem dL_law_1906 : decode cL_law 1906 = .ok (.daload, 1) := by decide +kernel
theorem dL_law_1907 : decode cL_law 1907 = .ok (.dload 7, 2) := by decide +kernel
theorem dL_law_1909 : decode cL_law 1909 = .ok (.dcmp .l, 1) := by decide +kernel
theorem dL_law_1910 : decode cL_law 1910 = .ok (.ifCond .eq 25, 3) := by decide +kernel
theorem dL_law_1913 : decode cL_law 1913 = .ok (.aload 4, 2) := by decide +kernel
theorem dL_law_1915 : decode cL_law 1915 = .ok (.iconst 0, 1) := by decide +kernel
theorem dL_law_1916 : decode cL_law 1916 = .ok (.daload, 1) := by decide +kernel
theorem dL_law_1917 : decode cL_law 1917 = .ok (.aload 4, 2) := by decide +kernel
theorem dL_law_1919 : decode cL_law 1919 = .ok (.iconst 0, 1) := by decide +kernel
theorem dL_law_1920 : decode cL_law 1920 = .ok (.daload, 1) := by decide +kernel
theorem dL_law_1921 : decode cL_law 1921 = .ok (.dcmp .l, 1) := by decide +kernel
theorem dL_law_1922 : decode cL_law 1922 = .ok (.ifCond .eq 11, 3) := by decide +kernel
theorem dL_law_1925 : decode cL_law 1925 = .ok (.dload 7, 2) := by decide +kernel
theorem dL_law_1927 : decode cL_law 1927 = .ok (.dload 7, 2) := by decide +kernel
theorem dL_law_1929 : decode cL_law 1929 = .ok (.dcmp .l, 1) := by decide +kernel
theorem dL_law_1930 : decode cL_law 1930 = .ok (.ifCond .ne 5, 3) := by decide +kernel
theorem dL_law_1933 : decode cL_law 1933 = .ok (.iconst 0, 1) := by decide +kernel
theorem dL_law_1934 : decode cL_law 1934 = .ok (.ireturn, 1) := by decide +kernel
theorem dL_law_1935 : decode cL_law 1935 = .ok (.goto 16, 3) := by decide +kernel
theorem dL_law_1938 : decode cL_law 1938 = .ok (.aload_n 1, 1) := by decide +kernel
theorem dL_law_1939 : decode cL_law 1939 = .ok (.invokevirtual 215, 3) := by decide +kernel
theorem dL_law_1942 : decode cL_law 1942 = .ok (.aload_n 2, 1) := by decide +kernel
theorem dL_law_1943 : decode cL_law 1943 = .ok (.invokevirtual 219, 3) := by decide +kernel
theorem dL_law_1946 : decode cL_law 1946 = .ok (.if_icmp .eq 5, 3) := by decide +kernel
theorem dL_law_1949 : decode cL_law 1949 = .ok (.iconst 0, 1) := by decide +kernel
theorem dL_law_1950 : decode cL_law 1950 = .ok (.ireturn, 1) := by decide +kernel
theorem dL_law_1951 : decode cL_law 1951 = .ok (.iinc 5 6, 3) := by decide +kernel
theorem dL_law_1954 : decode cL_law 1954 = .ok (.goto (-1926), 3) := by decide +kernel
theorem dL_law_1957 : decode cL_law 1957 = .ok (.iconst 1, 1) := by decide +kernel
theorem dL_law_1958 : decode cL_law 1958 = .ok (.ireturn, 1) := by decide +kernel
