theorem dX12_ring_193 : decode cX12_ring 193 = .ok (.iload 5, 2) := by decide +kernel
theorem dX12_ring_195 : decode cX12_ring 195 = .ok (.putfield 240, 3) := by decide +kernel
theorem dX12_ring_198 : decode cX12_ring 198 = .ok (.aload_n 0, 1) := by decide +kernel
theorem dX12_ring_199 : decode cX12_ring 199 = .ok (.lload 8, 2) := by decide +kernel
theorem dX12_ring_201 : decode cX12_ring 201 = .ok (.l2i, 1) := by decide +kernel
theorem dX12_ring_202 : decode cX12_ring 202 = .ok (.putfield 59, 3) := by decide +kernel
theorem dX12_ring_205 : decode cX12_ring 205 = .ok (.aload_n 0, 1) := by decide +kernel
theorem dX12_ring_206 : decode cX12_ring 206 = .ok (.iconst 0, 1) := by decide +kernel
theorem dX12_ring_207 : decode cX12_ring 207 = .ok (.putfield 62, 3) := by decide +kernel
theorem dX12_ring_210 : decode cX12_ring 210 = .ok (.iconst 1, 1) := by decide +kernel
theorem dX12_ring_211 : decode cX12_ring 211 = .ok (.ireturn, 1) := by decide +kernel
theorem dX12_divides_0 : decode cX12_divides 0 = .ok (.aload_n 0, 1) := by decide +kernel
theorem dX12_divides_1 : decode cX12_divides 1 = .ok (.getfield 53, 3) := by decide +kernel
theorem dX12_divides_4 : decode cX12_divides 4 = .ok (.iconst 1, 1) := by decide +kernel
theorem dX12_divides_5 : decode cX12_divides 5 = .ok (.if_icmp .ne 37, 3) := by decide +kernel
theorem dX12_divides_8 : decode cX12_divides 8 = .ok (.aload_n 0, 1) := by decide +kernel
theorem dX12_divides_9 : decode cX12_divides 9 = .ok (.lload_n 1, 1) := by decide +kernel
theorem dX12_divides_10 : decode cX12_divides 10 = .ok (.aload_n 0, 1) := by decide +kernel
theorem dX12_divides_11 : decode cX12_divides 11 = .ok (.getfield 56, 3) := by decide +kernel
theorem dX12_divides_14 : decode cX12_divides 14 = .ok (.i2l, 1) := by decide +kernel
theorem dX12_divides_15 : decode cX12_divides 15 = .ok (.ldiv, 1) := by decide +kernel
theorem dX12_divides_16 : decode cX12_divides 16 = .ok (.putfield 243, 3) := by decide +kernel
theorem dX12_divides_19 : decode cX12_divides 19 = .ok (.aload_n 0, 1) := by decide +kernel
theorem dX12_divides_20 : decode cX12_divides 20 = .ok (.lconst 0, 1) := by decide +kernel
theorem dX12_divides_21 : decode cX12_divides 21 = .ok (.putfield 246, 3) := by decide +kernel
theorem dX12_divides_24 : decode cX12_divides 24 = .ok (.lload_n 1, 1) := by decide +kernel
theorem dX12_divides_25 : decode cX12_divides 25 = .ok (.aload_n 0, 1) := by decide +kernel
theorem dX12_divides_26 : decode cX12_divides 26 = .ok (.getfield 56, 3) := by decide +kernel
theorem dX12_divides_29 : decode cX12_divides 29 = .ok (.i2l, 1) := by decide +kernel
theorem dX12_divides_30 : decode cX12_divides 30 = .ok (.lrem, 1) := by decide +kernel
theorem dX12_divides_31 : decode cX12_divides 31 = .ok (.lconst 0, 1) := by decide +kernel
theorem dX12_divides_32 : decode cX12_divides 32 = .ok (.lcmp, 1) := by decide +kernel
theorem dX12_divides_33 : decode cX12_divides 33 = .ok (.ifCond .ne 7, 3) := by decide +kernel
theorem dX12_divides_36 : decode cX12_divides 36 = .ok (.iconst 1, 1) := by decide +kernel
theorem dX12_divides_37 : decode cX12_divides 37 = .ok (.goto 4, 3) := by decide +kernel
theorem dX12_divides_40 : decode cX12_divides 40 = .ok (.iconst 0, 1) := by decide +kernel
theorem dX12_divides_41 : decode cX12_divides 41 = .ok (.ireturn, 1) := by decide +kernel
theorem dX12_divides_42 : decode cX12_divides 42 = .ok (.aload_n 0, 1) := by decide +kernel
theorem dX12_divides_43 : decode cX12_divides 43 = .ok (.getfield 56, 3) := by decide +kernel
theorem dX12_divides_46 : decode cX12_divides 46 = .ok (.i2l, 1) := by decide +kernel
theorem dX12_divides_47 : decode cX12_divides 47 = .ok (.aload_n 0, 1) := by decide +kernel
theorem dX12_divides_48 : decode cX12_divides 48 = .ok (.getfield 56, 3) := by decide +kernel
theorem dX12_divides_51 : decode cX12_divides 51 = .ok (.i2l, 1) := by decide +kernel
theorem dX12_divides_52 : decode cX12_divides 52 = .ok (.lmul, 1) := by decide +kernel
theorem dX12_divides_53 : decode cX12_divides 53 = .ok (.aload_n 0, 1) := by decide +kernel
theorem dX12_divides_54 : decode cX12_divides 54 = .ok (.getfield 234, 3) := by decide +kernel
theorem dX12_divides_57 : decode cX12_divides 57 = .ok (.i2l, 1) := by decide +kernel
theorem dX12_divides_58 : decode cX12_divides 58 = .ok (.aload_n 0, 1) := by decide +kernel
theorem dX12_divides_59 : decode cX12_divides 59 = .ok (.getfield 56, 3) := by decide +kernel
theorem dX12_divides_62 : decode cX12_divides 62 = .ok (.i2l, 1) := by decide +kernel
theorem dX12_divides_63 : decode cX12_divides 63 = .ok (.lmul, 1) := by decide +kernel
theorem dX12_divides_64 : decode cX12_divides 64 = .ok (.aload_n 0, 1) := by decide +kernel
theorem dX12_divides_65 : decode cX12_divides 65 = .ok (.getfield 240, 3) := by decide +kernel
theorem dX12_divides_68 : decode cX12_divides 68 = .ok (.i2l, 1) := by decide +kernel
theorem dX12_divides_69 : decode cX12_divides 69 = .ok (.lmul, 1) := by decide +kernel
theorem dX12_divides_70 : decode cX12_divides 70 = .ok (.ladd, 1) := by decide +kernel
theorem dX12_divides_71 : decode cX12_divides 71 = .ok (.aload_n 0, 1) := by decide +kernel
theorem dX12_divides_72 : decode cX12_divides 72 = .ok (.getfield 237, 3) := by decide +kernel
theorem dX12_divides_75 : decode cX12_divides 75 = .ok (.i2l, 1) := by decide +kernel
theorem dX12_divides_76 : decode cX12_divides 76 = .ok (.aload_n 0, 1) := by decide +kernel
theorem dX12_divides_77 : decode cX12_divides 77 = .ok (.getfield 240, 3) := by decide +kernel
theorem dX12_divides_80 : decode cX12_divides 80 = .ok (.i2l, 1) := by decide +kernel
theorem dX12_divides_81 : decode cX12_divides 81 = .ok (.lmul, 1) := by decide +kernel
theorem dX12_divides_82 : decode cX12_divides 82 = .ok (.aload_n 0, 1) := by decide +kernel
theorem dX12_divides_83 : decode cX12_divides 83 = .ok (.getfield 240, 3) := by decide +kernel
theorem dX12_divides_86 : decode cX12_divides 86 = .ok (.i2l, 1) := by decide +kernel
theorem dX12_divides_87 : decode cX12_divides 87 = .ok (.lmul, 1) := by decide +kernel
theorem dX12_divides_88 : decode cX12_divides 88 = .ok (.lsub, 1) := by decide +kernel
theorem dX12_divides_89 : decode cX12_divides 89 = .ok (.lstore 5, 2) := by decide +kernel
theorem dX12_divides_91 : decode cX12_divides 91 = .ok (.aload_n 0, 1) := by decide +kernel
theorem dX12_divides_92 : decode cX12_divides 92 = .ok (.getfield 56, 3) := by decide +kernel
theorem dX12_divides_95 : decode cX12_divides 95 = .ok (.i2l, 1) := by decide +kernel
theorem dX12_divides_96 : decode cX12_divides 96 = .ok (.aload_n 0, 1) := by decide +kernel
theorem dX12_divides_97 : decode cX12_divides 97 = .ok (.getfield 240, 3) := by decide +kernel
theorem dX12_divides_100 : decode cX12_divides 100 = .ok (.i2l, 1) := by decide +kernel
theorem dX12_divides_101 : decode cX12_divides 101 = .ok (.aload_n 0, 1) := by decide +kernel
theorem dX12_divides_102 : decode cX12_divides 102 = .ok (.getfield 234, 3) := by decide +kernel
theorem dX12_divides_105 : decode cX12_divides 105 = .ok (.i2l, 1) := by decide +kernel
theorem dX12_divides_106 : decode cX12_divides 106 = .ok (.lmul, 1) := by decide +kernel
theorem dX12_divides_107 : decode cX12_divides 107 = .ok (.ladd, 1) := by decide +kernel
theorem dX12_divides_108 : decode cX12_divides 108 = .ok (.lstore 7, 2) := by decide +kernel
theorem dX12_divides_110 : decode cX12_divides 110 = .ok (.aload_n 0, 1) := by decide +kernel
theorem dX12_divides_111 : decode cX12_divides 111 = .ok (.getfield 240, 3) := by decide +kernel
theorem dX12_divides_114 : decode cX12_divides 114 = .ok (.ineg, 1) := by decide +kernel
theorem dX12_divides_115 : decode cX12_divides 115 = .ok (.i2l, 1) := by decide +kernel
theorem dX12_divides_116 : decode cX12_divides 116 = .ok (.lstore 9, 2) := by decide +kernel
theorem dX12_divides_118 : decode cX12_divides 118 = .ok (.lload_n 1, 1) := by decide +kernel
theorem dX12_divides_119 : decode cX12_divides 119 = .ok (.lload 7, 2) := by decide +kernel
theorem dX12_divides_121 : decode cX12_divides 121 = .ok (.lmul, 1) := by decide +kernel
theorem dX12_divides_122 : decode cX12_divides 122 = .ok (.lload_n 3, 1) := by decide +kernel
theorem dX12_divides_123 : decode cX12_divides 123 = .ok (.lload 9, 2) := by decide +kernel
theorem dX12_divides_125 : decode cX12_divides 125 = .ok (.lmul, 1) := by decide +kernel
theorem dX12_divides_126 : decode cX12_divides 126 = .ok (.aload_n 0, 1) := by decide +kernel
theorem dX12_divides_127 : decode cX12_divides 127 = .ok (.getfield 237, 3) := by decide +kernel
theorem dX12_divides_130 : decode cX12_divides 130 = .ok (.i2l, 1) := by decide +kernel
theorem dX12_divides_131 : decode cX12_divides 131 = .ok (.lmul, 1) := by decide +kernel
theorem dX12_divides_132 : decode cX12_divides 132 = .ok (.ladd, 1) := by decide +kernel
theorem dX12_divides_133 : decode cX12_divides 133 = .ok (.lstore 11, 2) := by decide +kernel
theorem dX12_divides_135 : decode cX12_divides 135 = .ok (.lload_n 1, 1) := by decide +kernel
theorem dX12_divides_136 : decode cX12_divides 136 = .ok (.lload 9, 2) := by decide +kernel
theorem dX12_divides_138 : decode cX12_divides 138 = .ok (.lmul, 1) := by decide +kernel
theorem dX12_divides_139 : decode cX12_divides 139 = .ok (.lload_n 3, 1) := by decide +kernel
theorem dX12_divides_140 : decode cX12_divides 140 = .ok (.lload 7, 2) := by decide +kernel
theorem dX12_divides_142 : decode cX12_divides 142 = .ok (.lmul, 1) := by decide +kernel
theorem dX12_divides_143 : decode cX12_divides 143 = .ok (.ladd, 1) := by decide +kernel
theorem dX12_divides_144 : decode cX12_divides 144 = .ok (.lload_n 3, 1) := by decide +kernel
theorem dX12_divides_145 : decode cX12_divides 145 = .ok (.lload 9, 2) := by decide +kernel
theorem dX12_divides_147 : decode cX12_divides 147 = .ok (.lmul, 1) := by decide +kernel
theorem dX12_divides_148 : decode cX12_divides 148 = .ok (.aload_n 0, 1) := by decide +kernel
theorem dX12_divides_149 : decode cX12_divides 149 = .ok (.getfield 234, 3) := by decide +kernel
theorem dX12_divides_152 : decode cX12_divides 152 = .ok (.i2l, 1) := by decide +kernel
theorem dX12_divides_153 : decode cX12_divides 153 = .ok (.lmul, 1) := by decide +kernel
theorem dX12_divides_154 : decode cX12_divides 154 = .ok (.ladd, 1) := by decide +kernel
theorem dX12_divides_155 : decode cX12_divides 155 = .ok (.lstore 13, 2) := by decide +kernel
theorem dX12_divides_157 : decode cX12_divides 157 = .ok (.aload_n 0, 1) := by decide +kernel
theorem dX12_divides_158 : decode cX12_divides 158 = .ok (.lload 11, 2) := by decide +kernel
theorem dX12_divides_160 : decode cX12_divides 160 = .ok (.lload 5, 2) := by decide +kernel
theorem dX12_divides_162 : decode cX12_divides 162 = .ok (.ldiv, 1) := by decide +kernel
theorem dX12_divides_163 : decode cX12_divides 163 = .ok (.putfield 243, 3) := by decide +kernel
theorem dX12_divides_166 : decode cX12_divides 166 = .ok (.aload_n 0, 1) := by decide +kernel
theorem dX12_divides_167 : decode cX12_divides 167 = .ok (.lload 13, 2) := by decide +kernel
theorem dX12_divides_169 : decode cX12_divides 169 = .ok (.lload 5, 2) := by decide +kernel
theorem dX12_divides_171 : decode cX12_divides 171 = .ok (.ldiv, 1) := by decide +kernel
theorem dX12_divides_172 : decode cX12_divides 172 = .ok (.putfield 246, 3) := by decide +kernel
theorem dX12_divides_175 : decode cX12_divides 175 = .ok (.lload 11, 2) := by decide +kernel
theorem dX12_divides_177 : decode cX12_divides 177 = .ok (.lload 5, 2) := by decide +kernel
theorem dX12_divides_179 : decode cX12_divides 179 = .ok (.lrem, 1) := by decide +kernel
theorem dX12_divides_180 : decode cX12_divides 180 = .ok (.lconst 0, 1) := by decide +kernel
theorem dX12_divides_181 : decode cX12_divides 181 = .ok (.lcmp, 1) := by decide +kernel
theorem dX12_divides_182 : decode cX12_divides 182 = .ok (.ifCond .ne 17, 3) := by decide +kernel
theorem dX12_divides_185 : decode cX12_divides 185 = .ok (.lload 13, 2) := by decide +kernel
theorem dX12_divides_187 : decode cX12_divides 187 = .ok (.lload 5, 2) := by decide +kernel
theorem dX12_divides_189 : decode cX12_divides 189 = .ok (.lrem, 1) := by decide +kernel
theorem dX12_divides_190 : decode cX12_divides 190 = .ok (.lconst 0, 1) := by decide +kernel
theorem dX12_divides_191 : decode cX12_divides 191 = .ok (.lcmp, 1) := by decide +kernel
theorem dX12_divides_192 : decode cX12_divides 192 = .ok (.ifCond .ne 7, 3) := by decide +kernel
theorem dX12_divides_195 : decode cX12_divides 195 = .ok (.iconst 1, 1) := by decide +kernel
theorem dX12_divides_196 : decode cX12_divides 196 = .ok (.goto 4, 3) := by decide +kernel
theorem dX12_divides_199 : decode cX12_divides 199 = .ok (.iconst 0, 1) := by decide +kernel
theorem dX12_divides_200 : decode cX12_divides 200 = .ok (.ireturn, 1) := by decide +kernel
theorem dX12_set__0 : decode cX12_set_ 0 = .ok (.aload_n 0, 1) := by decide +kernel
theorem dX12_set__1 : decode cX12_set_ 1 = .ok (.iconst 0, 1) := by decide +kernel
theorem dX12_set__2 : decode cX12_set_ 2 = .ok (.putfield 107, 3) := by decide +kernel
theorem dX12_set__5 : decode cX12_set_ 5 = .ok (.aload_n 0, 1) := by decide +kernel
theorem dX12_set__6 : decode cX12_set_ 6 = .ok (.invokevirtual 212, 3) := by decide +kernel
theorem dX12_set__9 : decode cX12_set_ 9 = .ok (.istore_n 1, 1) := by decide +kernel
theorem dX12_set__10 : decode cX12_set_ 10 = .ok (.iload_n 1, 1) := by decide +kernel
theorem dX12_set__11 : decode cX12_set_ 11 = .ok (.aload_n 0, 1) := by decide +kernel
theorem dX12_set__12 : decode cX12_set_ 12 = .ok (.getfield 59, 3) := by decide +kernel
theorem dX12_set__15 : decode cX12_set_ 15 = .ok (.aload_n 0, 1) := by decide +kernel
theorem dX12_set__16 : decode cX12_set_ 16 = .ok (.getfield 53, 3) := by decide +kernel
theorem dX12_set__19 : decode cX12_set_ 19 = .ok (.imul, 1) := by decide +kernel
theorem dX12_set__20 : decode cX12_set_ 20 = .ok (.if_icmp .eq 5, 3) := by decide +kernel
theorem dX12_set__23 : decode cX12_set_ 23 = .ok (.iconst 0, 1) := by decide +kernel
theorem dX12_set__24 : decode cX12_set_ 24 = .ok (.ireturn, 1) := by decide +kernel
theorem dX12_set__25 : decode cX12_set_ 25 = .ok (.iconst 0, 1) := by decide +kernel
theorem dX12_set__26 : decode cX12_set_ 26 = .ok (.istore_n 2, 1) := by decide +kernel
theorem dX12_set__27 : decode cX12_set_ 27 = .ok (.iload_n 2, 1) := by decide +kernel
theorem dX12_set__28 : decode cX12_set_ 28 = .ok (.aload_n 0, 1) := by decide +kernel
theorem dX12_set__29 : decode cX12_set_ 29 = .ok (.getfield 59, 3) := by decide +kernel
theorem dX12_set__32 : decode cX12_set_ 32 = .ok (.if_icmp .ge 57, 3) := by decide +kernel
theorem dX12_set__35 : decode cX12_set_ 35 = .ok (.aload_n 0, 1) := by decide +kernel
theorem dX12_set__36 : decode cX12_set_ 36 = .ok (.getfield 71, 3) := by decide +kernel
theorem dX12_set__39 : decode cX12_set_ 39 = .ok (.iload_n 2, 1) := by decide +kernel
theorem dX12_set__40 : decode cX12_set_ 40 = .ok (.aload_n 0, 1) := by decide +kernel
theorem dX12_set__41 : decode cX12_set_ 41 = .ok (.getfield 7, 3) := by decide +kernel
theorem dX12_set__44 : decode cX12_set_ 44 = .ok (.aload_n 0, 1) := by decide +kernel
theorem dX12_set__45 : decode cX12_set_ 45 = .ok (.getfield 53, 3) := by decide +kernel
theorem dX12_set__48 : decode cX12_set_ 48 = .ok (.iload_n 2, 1) := by decide +kernel
theorem dX12_set__49 : decode cX12_set_ 49 = .ok (.imul, 1) := by decide +kernel
theorem dX12_set__50 : decode cX12_set_ 50 = .ok (.baload, 1) := by decide +kernel
theorem dX12_set__51 : decode cX12_set_ 51 = .ok (.iastore, 1) := by decide +kernel
theorem dX12_set__52 : decode cX12_set_ 52 = .ok (.aload_n 0, 1) := by decide +kernel
theorem dX12_set__53 : decode cX12_set_ 53 = .ok (.getfield 74, 3) := by decide +kernel
theorem dX12_set__56 : decode cX12_set_ 56 = .ok (.iload_n 2, 1) := by decide +kernel
theorem dX12_set__57 : decode cX12_set_ 57 = .ok (.aload_n 0, 1) := by decide +kernel
theorem dX12_set__58 : decode cX12_set_ 58 = .ok (.getfield 53, 3) := by decide +kernel
theorem dX12_set__61 : decode cX12_set_ 61 = .ok (.iconst 1, 1) := by decide +kernel
theorem dX12_set__62 : decode cX12_set_ 62 = .ok (.if_icmp .ne 7, 3) := by decide +kernel
theorem dX12_set__65 : decode cX12_set_ 65 = .ok (.iconst 0, 1) := by decide +kernel
theorem dX12_set__66 : decode cX12_set_ 66 = .ok (.goto 16, 3) := by decide +kernel
theorem dX12_set__69 : decode cX12_set_ 69 = .ok (.aload_n 0, 1) := by decide +kernel
theorem dX12_set__70 : decode cX12_set_ 70 = .ok (.getfield 7, 3) := by decide +kernel
theorem dX12_set__73 : decode cX12_set_ 73 = .ok (.aload_n 0, 1) := by decide +kernel
theorem dX12_set__74 : decode cX12_set_ 74 = .ok (.getfield 53, 3) := by decide +kernel
theorem dX12_set__77 : decode cX12_set_ 77 = .ok (.iload_n 2, 1) := by decide +kernel
theorem dX12_set__78 : decode cX12_set_ 78 = .ok (.imul, 1) := by decide +kernel
theorem dX12_set__79 : decode cX12_set_ 79 = .ok (.iconst 1, 1) := by decide +kernel
theorem dX12_set__80 : decode cX12_set_ 80 = .ok (.iadd, 1) := by decide +kernel
theorem dX12_set__81 : decode cX12_set_ 81 = .ok (.baload, 1) := by decide +kernel
theorem dX12_set__82 : decode cX12_set_ 82 = .ok (.iastore, 1) := by decide +kernel
theorem dX12_set__83 : decode cX12_set_ 83 = .ok (.iinc 2 1, 3) := by decide +kernel
theorem dX12_set__86 : decode cX12_set_ 86 = .ok (.goto (-59), 3) := by decide +kernel
theorem dX12_set__89 : decode cX12_set_ 89 = .ok (.iconst 0, 1) := by decide +kernel
theorem dX12_set__90 : decode cX12_set_ 90 = .ok (.istore_n 2, 1) := by decide +kernel
theorem dX12_set__91 : decode cX12_set_ 91 = .ok (.iload_n 2, 1) := by decide +kernel
theorem dX12_set__92 : decode cX12_set_ 92 = .ok (.aload_n 0, 1) := by decide +kernel
theorem dX12_set__93 : decode cX12_set_ 93 = .ok (.getfield 59, 3) := by decide +kernel
theorem dX12_set__96 : decode cX12_set_ 96 = .ok (.if_icmp .ge 59, 3) := by decide +kernel
theorem dX12_set__99 : decode cX12_set_ 99 = .ok (.iconst 0, 1) := by decide +kernel
theorem dX12_set__100 : decode cX12_set_ 100 = .ok (.istore_n 3, 1) := by decide +kernel
theorem dX12_set__101 : decode cX12_set_ 101 = .ok (.iload_n 3, 1) := by decide +kernel
theorem dX12_set__102 : decode cX12_set_ 102 = .ok (.iload_n 2, 1) := by decide +kernel
theorem dX12_set__103 : decode cX12_set_ 103 = .ok (.if_icmp .ge 46, 3) := by decide +kernel
theorem dX12_set__106 : decode cX12_set_ 106 = .ok (.aload_n 0, 1) := by decide +kernel
theorem dX12_set__107 : decode cX12_set_ 107 = .ok (.aload_n 0, 1) := by decide +kernel
theorem dX12_set__108 : decode cX12_set_ 108 = .ok (.getfield 71, 3) := by decide +kernel
theorem dX12_set__111 : decode cX12_set_ 111 = .ok (.iload_n 2, 1) := by decide +kernel
theorem dX12_set__112 : decode cX12_set_ 112 = .ok (.iaload, 1) := by decide +kernel
theorem dX12_set__113 : decode cX12_set_ 113 = .ok (.aload_n 0, 1) := by decide +kernel
theorem dX12_set__114 : decode cX12_set_ 114 = .ok (.getfield 71, 3) := by decide +kernel
theorem dX12_set__117 : decode cX12_set_ 117 = .ok (.iload_n 3, 1) := by decide +kernel
theorem dX12_set__118 : decode cX12_set_ 118 = .ok (.iaload, 1) := by decide +kernel
theorem dX12_set__119 : decode cX12_set_ 119 = .ok (.isub, 1) := by decide +kernel
theorem dX12_set__120 : decode cX12_set_ 120 = .ok (.i2l, 1) := by decide +kernel
theorem dX12_set__121 : decode cX12_set_ 121 = .ok (.aload_n 0, 1) := by decide +kernel
theorem dX12_set__122 : decode cX12_set_ 122 = .ok (.getfield 74, 3) := by decide +kernel
theorem dX12_set__125 : decode cX12_set_ 125 = .ok (.iload_n 2, 1) := by decide +kernel
theorem dX12_set__126 : decode cX12_set_ 126 = .ok (.iaload, 1) := by decide +kernel
theorem dX12_set__127 : decode cX12_set_ 127 = .ok (.aload_n 0, 1) := by decide +kernel
theorem dX12_set__128 : decode cX12_set_ 128 = .ok (.getfield 74, 3) := by decide +kernel
theorem dX12_set__131 : decode cX12_set_ 131 = .ok (.iload_n 3, 1) := by decide +kernel
theorem dX12_set__132 : decode cX12_set_ 132 = .ok (.iaload, 1) := by decide +kernel
theorem dX12_set__133 : decode cX12_set_ 133 = .ok (.isub, 1) := by decide +kernel
theorem dX12_set__134 : decode cX12_set_ 134 = .ok (.i2l, 1) := by decide +kernel
theorem dX12_set__135 : decode cX12_set_ 135 = .ok (.invokevirtual 249, 3) := by decide +kernel
theorem dX12_set__138 : decode cX12_set_ 138 = .ok (.ifCond .eq 5, 3) := by decide +kernel
theorem dX12_set__141 : decode cX12_set_ 141 = .ok (.iconst 0, 1) := by decide +kernel
theorem dX12_set__142 : decode cX12_set_ 142 = .ok (.ireturn, 1) := by decide +kernel
theorem dX12_set__143 : decode cX12_set_ 143 = .ok (.iinc 3 1, 3) := by decide +kernel
theorem dX12_set__146 : decode cX12_set_ 146 = .ok (.goto (-45), 3) := by decide +kernel
theorem dX12_set__149 : decode cX12_set_ 149 = .ok (.iinc 2 1, 3) := by decide +kernel
theorem dX12_set__152 : decode cX12_set_ 152 = .ok (.goto (-61), 3) := by decide +kernel
theorem dX12_set__155 : decode cX12_set_ 155 = .ok (.iconst 0, 1) := by decide +kernel
theorem dX12_set__156 : decode cX12_set_ 156 = .ok (.istore_n 2, 1) := by decide +kernel
theorem dX12_set__157 : decode cX12_set_ 157 = .ok (.iload_n 2, 1) := by decide +kernel
theorem dX12_set__158 : decode cX12_set_ 158 = .ok (.aload_n 0, 1) := by decide +kernel
theorem dX12_set__159 : decode cX12_set_ 159 = .ok (.getfield 59, 3) := by decide +kernel
theorem dX12_set__162 : decode cX12_set_ 162 = .ok (.if_icmp .ge 33, 3) := by decide +kernel
theorem dX12_set__165 : decode cX12_set_ 165 = .ok (.aload_n 0, 1) := by decide +kernel
theorem dX12_set__166 : decode cX12_set_ 166 = .ok (.getfield 65, 3) := by decide +kernel
theorem dX12_set__169 : decode cX12_set_ 169 = .ok (.iload_n 2, 1) := by decide +kernel
theorem dX12_set__170 : decode cX12_set_ 170 = .ok (.aload_n 0, 1) := by decide +kernel
theorem dX12_set__171 : decode cX12_set_ 171 = .ok (.getfield 71, 3) := by decide +kernel
theorem dX12_set__174 : decode cX12_set_ 174 = .ok (.iload_n 2, 1) := by decide +kernel
theorem dX12_set__175 : decode cX12_set_ 175 = .ok (.iaload, 1) := by decide +kernel
theorem dX12_set__176 : decode cX12_set_ 176 = .ok (.iastore, 1) := by decide +kernel
theorem dX12_set__177 : decode cX12_set_ 177 = .ok (.aload_n 0, 1) := by decide +kernel
theorem dX12_set__178 : decode cX12_set_ 178 = .ok (.getfield 68, 3) := by decide +kernel
theorem dX12_set__181 : decode cX12_set_ 181 = .ok (.iload_n 2, 1) := by decide +kernel
theorem dX12_set__182 : decode cX12_set_ 182 = .ok (.aload_n 0, 1) := by decide +kernel
theorem dX12_set__183 : decode cX12_set_ 183 = .ok (.getfield 74, 3) := by decide +kernel
theorem dX12_set__186 : decode cX12_set_ 186 = .ok (.iload_n 2, 1) := by decide +kernel
theorem dX12_set__187 : decode cX12_set_ 187 = .ok (.iaload, 1) := by decide +kernel
theorem dX12_set__188 : decode cX12_set_ 188 = .ok (.iastore, 1) := by decide +kernel
theorem dX12_set__189 : decode cX12_set_ 189 = .ok (.iinc 2 1, 3) := by decide +kernel
theorem dX12_set__192 : decode cX12_set_ 192 = .ok (.goto (-35), 3) := by decide +kernel
theorem dX12_set__195 : decode cX12_set_ 195 = .ok (.aload_n 0, 1) := by decide +kernel
theorem dX12_set__196 : decode cX12_set_ 196 = .ok (.aload_n 0, 1) := by decide +kernel
theorem dX12_set__197 : decode cX12_set_ 197 = .ok (.getfield 59, 3) := by decide +kernel
theorem dX12_set__200 : decode cX12_set_ 200 = .ok (.putfield 62, 3) := by decide +kernel
theorem dX12_set__203 : decode cX12_set_ 203 = .ok (.iconst 1, 1) := by decide +kernel
theorem dX12_set__204 : decode cX12_set_ 204 = .ok (.ireturn, 1) := by decide +kernel
theorem dX12_walk_0 : decode cX12_walk 0 = .ok (.aload_n 0, 1) := by decide +kernel
theorem dX12_walk_1 : decode cX12_walk 1 = .ok (.getfield 77, 3) := by decide +kernel
theorem dX12_walk_4 : decode cX12_walk 4 = .ok (.iconst 0, 1) := by decide +kernel
theorem dX12_walk_5 : decode cX12_walk 5 = .ok (.iload_n 1, 1) := by decide +kernel
theorem dX12_walk_6 : decode cX12_walk 6 = .ok (.iastore, 1) := by decide +kernel
theorem dX12_walk_7 : decode cX12_walk 7 = .ok (.aload_n 0, 1) := by decide +kernel
theorem dX12_walk_8 : decode cX12_walk 8 = .ok (.getfield 80, 3) := by decide +kernel
theorem dX12_walk_11 : decode cX12_walk 11 = .ok (.iconst 0, 1) := by decide +kernel
theorem dX12_walk_12 : decode cX12_walk 12 = .ok (.iload_n 2, 1) := by decide +kernel
theorem dX12_walk_13 : decode cX12_walk 13 = .ok (.iastore, 1) := by decide +kernel
theorem dX12_walk_14 : decode cX12_walk 14 = .ok (.aload_n 0, 1) := by decide +kernel
theorem dX12_walk_15 : decode cX12_walk 15 = .ok (.iconst 0, 1) := by decide +kernel
theorem dX12_walk_16 : decode cX12_walk 16 = .ok (.putfield 253, 3) := by decide +kernel
theorem dX12_walk_19 : decode cX12_walk 19 = .ok (.aload_n 0, 1) := by decide +kernel
theorem dX12_walk_20 : decode cX12_walk 20 = .ok (.iconst 0, 1) := by decide +kernel
theorem dX12_walk_21 : decode cX12_walk 21 = .ok (.putfield 256, 3) := by decide +kernel
theorem dX12_walk_24 : decode cX12_walk 24 = .ok (.iconst 0, 1) := by decide +kernel
theorem dX12_walk_25 : decode cX12_walk 25 = .ok (.istore_n 3, 1) := by decide +kernel
theorem dX12_walk_26 : decode cX12_walk 26 = .ok (.aload_n 0, 1) := by decide +kernel
theorem dX12_walk_27 : decode cX12_walk 27 = .ok (.iload_n 3, 1) := by decide +kernel
theorem dX12_walk_28 : decode cX12_walk 28 = .ok (.putfield 259, 3) := by decide +kernel
theorem dX12_walk_31 : decode cX12_walk 31 = .ok (.aload_n 0, 1) := by decide +kernel
theorem dX12_walk_32 : decode cX12_walk 32 = .ok (.getfield 77, 3) := by decide +kernel
theorem dX12_walk_35 : decode cX12_walk 35 = .ok (.iload_n 3, 1) := by decide +kernel
theorem dX12_walk_36 : decode cX12_walk 36 = .ok (.iaload, 1) := by decide +kernel
theorem dX12_walk_37 : decode cX12_walk 37 = .ok (.ifCond .ne 18, 3) := by decide +kernel
theorem dX12_walk_40 : decode cX12_walk 40 = .ok (.aload_n 0, 1) := by decide +kernel
theorem dX12_walk_41 : decode cX12_walk 41 = .ok (.getfield 80, 3) := by decide +kernel
theorem dX12_walk_44 : decode cX12_walk 44 = .ok (.iload_n 3, 1) := by decide +kernel
theorem dX12_walk_45 : decode cX12_walk 45 = .ok (.iaload, 1) := by decide +kernel
theorem dX12_walk_46 : decode cX12_walk 46 = .ok (.ifCond .ne 9, 3) := by decide +kernel
theorem dX12_walk_49 : decode cX12_walk 49 = .ok (.aload_n 0, 1) := by decide +kernel
theorem dX12_walk_50 : decode cX12_walk 50 = .ok (.iconst 0, 1) := by decide +kernel
theorem dX12_walk_51 : decode cX12_walk 51 = .ok (.putfield 262, 3) := by decide +kernel
theorem dX12_walk_54 : decode cX12_walk 54 = .ok (.return_, 1) := by decide +kernel
theorem dX12_walk_55 : decode cX12_walk 55 = .ok (.iconst 0, 1) := by decide +kernel
theorem dX12_walk_56 : decode cX12_walk 56 = .ok (.istore 4, 2) := by decide +kernel
theorem dX12_walk_58 : decode cX12_walk 58 = .ok (.iload 4, 2) := by decide +kernel
theorem dX12_walk_60 : decode cX12_walk 60 = .ok (.iload_n 3, 1) := by decide +kernel
theorem dX12_walk_61 : decode cX12_walk 61 = .ok (.if_icmp .ge 64, 3) := by decide +kernel
theorem dX12_walk_64 : decode cX12_walk 64 = .ok (.aload_n 0, 1) := by decide +kernel
theorem dX12_walk_65 : decode cX12_walk 65 = .ok (.getfield 77, 3) := by decide +kernel
theorem dX12_walk_68 : decode cX12_walk 68 = .ok (.iload 4, 2) := by decide +kernel
theorem dX12_walk_70 : decode cX12_walk 70 = .ok (.iaload, 1) := by decide +kernel
theorem dX12_walk_71 : decode cX12_walk 71 = .ok (.aload_n 0, 1) := by decide +kernel
theorem dX12_walk_72 : decode cX12_walk 72 = .ok (.getfield 77, 3) := by decide +kernel
theorem dX12_walk_75 : decode cX12_walk 75 = .ok (.iload_n 3, 1) := by decide +kernel
theorem dX12_walk_76 : decode cX12_walk 76 = .ok (.iaload, 1) := by decide +kernel
theorem dX12_walk_77 : decode cX12_walk 77 = .ok (.if_icmp .ne 42, 3) := by decide +kernel
theorem dX12_walk_80 : decode cX12_walk 80 = .ok (.aload_n 0, 1) := by decide +kernel
theorem dX12_walk_81 : decode cX12_walk 81 = .ok (.getfield 80, 3) := by decide +kernel
theorem dX12_walk_84 : decode cX12_walk 84 = .ok (.iload 4, 2) := by decide +kernel
theorem dX12_walk_86 : decode cX12_walk 86 = .ok (.iaload, 1) := by decide +kernel
theorem dX12_walk_87 : decode cX12_walk 87 = .ok (.aload_n 0, 1) := by decide +kernel
theorem dX12_walk_88 : decode cX12_walk 88 = .ok (.getfield 80, 3) := by decide +kernel
theorem dX12_walk_91 : decode cX12_walk 91 = .ok (.iload_n 3, 1) := by decide +kernel
theorem dX12_walk_92 : decode cX12_walk 92 = .ok (.iaload, 1) := by decide +kernel
theorem dX12_walk_93 : decode cX12_walk 93 = .ok (.if_icmp .eq 6, 3) := by decide +kernel
theorem dX12_walk_96 : decode cX12_walk 96 = .ok (.goto 23, 3) := by decide +kernel
theorem dX12_walk_99 : decode cX12_walk 99 = .ok (.aload_n 0, 1) := by decide +kernel
theorem dX12_walk_100 : decode cX12_walk 100 = .ok (.iload 4, 2) := by decide +kernel
theorem dX12_walk_102 : decode cX12_walk 102 = .ok (.putfield 259, 3) := by decide +kernel
theorem dX12_walk_105 : decode cX12_walk 105 = .ok (.aload_n 0, 1) := by decide +kernel
theorem dX12_walk_106 : decode cX12_walk 106 = .ok (.iload_n 3, 1) := by decide +kernel
theorem dX12_walk_107 : decode cX12_walk 107 = .ok (.iload 4, 2) := by decide +kernel
theorem dX12_walk_109 : decode cX12_walk 109 = .ok (.isub, 1) := by decide +kernel
theorem dX12_walk_110 : decode cX12_walk 110 = .ok (.putfield 256, 3) := by decide +kernel
theorem dX12_walk_113 : decode cX12_walk 113 = .ok (.aload_n 0, 1) := by decide +kernel
theorem dX12_walk_114 : decode cX12_walk 114 = .ok (.iconst 1, 1) := by decide +kernel
theorem dX12_walk_115 : decode cX12_walk 115 = .ok (.putfield 262, 3) := by decide +kernel
theorem dX12_walk_118 : decode cX12_walk 118 = .ok (.return_, 1) := by decide +kernel
theorem dX12_walk_119 : decode cX12_walk 119 = .ok (.iinc 4 1, 3) := by decide +kernel
theorem dX12_walk_122 : decode cX12_walk 122 = .ok (.goto (-64), 3) := by decide +kernel
theorem dX12_walk_125 : decode cX12_walk 125 = .ok (.aload_n 0, 1) := by decide +kernel
theorem dX12_walk_126 : decode cX12_walk 126 = .ok (.iconst 2, 1) := by decide +kernel
theorem dX12_walk_127 : decode cX12_walk 127 = .ok (.putfield 262, 3) := by decide +kernel
theorem dX12_walk_130 : decode cX12_walk 130 = .ok (.iload_n 3, 1) := by decide +kernel
theorem dX12_walk_131 : decode cX12_walk 131 = .ok (.sipush 300, 3) := by decide +kernel
theorem dX12_walk_134 : decode cX12_walk 134 = .ok (.if_icmp .ne 4, 3) := by decide +kernel
theorem dX12_walk_137 : decode cX12_walk 137 = .ok (.return_, 1) := by decide +kernel
theorem dX12_walk_138 : decode cX12_walk 138 = .ok (.iconst 0, 1) := by decide +kernel
theorem dX12_walk_139 : decode cX12_walk 139 = .ok (.istore 4, 2) := by decide +kernel
theorem dX12_walk_141 : decode cX12_walk 141 = .ok (.aload_n 0, 1) := by decide +kernel
theorem dX12_walk_142 : decode cX12_walk 142 = .ok (.aload_n 0, 1) := by decide +kernel
theorem dX12_walk_143 : decode cX12_walk 143 = .ok (.getfield 77, 3) := by decide +kernel
theorem dX12_walk_146 : decode cX12_walk 146 = .ok (.iload_n 3, 1) := by decide +kernel
theorem dX12_walk_147 : decode cX12_walk 147 = .ok (.iaload, 1) := by decide +kernel
theorem dX12_walk_148 : decode cX12_walk 148 = .ok (.i2l, 1) := by decide +kernel
theorem dX12_walk_149 : decode cX12_walk 149 = .ok (.aload_n 0, 1) := by decide +kernel
theorem dX12_walk_150 : decode cX12_walk 150 = .ok (.getfield 65, 3) := by decide +kernel
theorem dX12_walk_153 : decode cX12_walk 153 = .ok (.iload 4, 2) := by decide +kernel
theorem dX12_walk_155 : decode cX12_walk 155 = .ok (.iaload, 1) := by decide +kernel
theorem dX12_walk_156 : decode cX12_walk 156 = .ok (.i2l, 1) := by decide +kernel
theorem dX12_walk_157 : decode cX12_walk 157 = .ok (.lsub, 1) := by decide +kernel
theorem dX12_walk_158 : decode cX12_walk 158 = .ok (.aload_n 0, 1) := by decide +kernel
theorem dX12_walk_159 : decode cX12_walk 159 = .ok (.getfield 80, 3) := by decide +kernel
theorem dX12_walk_162 : decode cX12_walk 162 = .ok (.iload_n 3, 1) := by decide +kernel
theorem dX12_walk_163 : decode cX12_walk 163 = .ok (.iaload, 1) := by decide +kernel
theorem dX12_walk_164 : decode cX12_walk 164 = .ok (.i2l, 1) := by decide +kernel
theorem dX12_walk_165 : decode cX12_walk 165 = .ok (.aload_n 0, 1) := by decide +kernel
theorem dX12_walk_166 : decode cX12_walk 166 = .ok (.getfield 68, 3) := by decide +kernel
theorem dX12_walk_169 : decode cX12_walk 169 = .ok (.iload 4, 2) := by decide +kernel
theorem dX12_walk_171 : decode cX12_walk 171 = .ok (.iaload, 1) := by decide +kernel
theorem dX12_walk_172 : decode cX12_walk 172 = .ok (.i2l, 1) := by decide +kernel
theorem dX12_walk_173 : decode cX12_walk 173 = .ok (.lsub, 1) := by decide +kernel
theorem dX12_walk_174 : decode cX12_walk 174 = .ok (.invokevirtual 249, 3) := by decide +kernel
theorem dX12_walk_177 : decode cX12_walk 177 = .ok (.ifCond .ne 9, 3) := by decide +kernel
theorem dX12_walk_180 : decode cX12_walk 180 = .ok (.iinc 4 1, 3) := by decide +kernel
theorem dX12_walk_183 : decode cX12_walk 183 = .ok (.goto (-42), 3) := by decide +kernel
theorem dX12_walk_186 : decode cX12_walk 186 = .ok (.aload_n 0, 1) := by decide +kernel
theorem dX12_walk_187 : decode cX12_walk 187 = .ok (.getfield 83, 3) := by decide +kernel
theorem dX12_walk_190 : decode cX12_walk 190 = .ok (.iload_n 3, 1) := by decide +kernel
theorem dX12_walk_191 : decode cX12_walk 191 = .ok (.iload 4, 2) := by decide +kernel
theorem dX12_walk_193 : decode cX12_walk 193 = .ok (.iastore, 1) := by decide +kernel
theorem dX12_walk_194 : decode cX12_walk 194 = .ok (.aload_n 0, 1) := by decide +kernel
theorem dX12_walk_195 : decode cX12_walk 195 = .ok (.iload_n 3, 1) := by decide +kernel
theorem dX12_walk_196 : decode cX12_walk 196 = .ok (.iconst 1, 1) := by decide +kernel
theorem dX12_walk_197 : decode cX12_walk 197 = .ok (.iadd, 1) := by decide +kernel
theorem dX12_walk_198 : decode cX12_walk 198 = .ok (.putfield 253, 3) := by decide +kernel
theorem dX12_walk_201 : decode cX12_walk 201 = .ok (.aload_n 0, 1) := by decide +kernel
theorem dX12_walk_202 : decode cX12_walk 202 = .ok (.iload_n 3, 1) := by decide +kernel
theorem dX12_walk_203 : decode cX12_walk 203 = .ok (.iconst 1, 1) := by decide +kernel
theorem dX12_walk_204 : decode cX12_walk 204 = .ok (.iadd, 1) := by decide +kernel
theorem dX12_walk_205 : decode cX12_walk 205 = .ok (.putfield 259, 3) := by decide +kernel
theorem dX12_walk_208 : decode cX12_walk 208 = .ok (.aload_n 0, 1) := by decide +kernel
theorem dX12_walk_209 : decode cX12_walk 209 = .ok (.getfield 243, 3) := by decide +kernel
theorem dX12_walk_212 : decode cX12_walk 212 = .ok (.ldc2_w 265, 3) := by decide +kernel
theorem dX12_walk_215 : decode cX12_walk 215 = .ok (.lcmp, 1) := by decide +kernel
theorem dX12_walk_216 : decode cX12_walk 216 = .ok (.ifCond .gt 36, 3) := by decide +kernel
theorem dX12_walk_219 : decode cX12_walk 219 = .ok (.aload_n 0, 1) := by decide +kernel
theorem dX12_walk_220 : decode cX12_walk 220 = .ok (.getfield 243, 3) := by decide +kernel
theorem dX12_walk_223 : decode cX12_walk 223 = .ok (.ldc2_w 267, 3) := by decide +kernel
theorem dX12_walk_226 : decode cX12_walk 226 = .ok (.lcmp, 1) := by decide +kernel
theorem dX12_walk_227 : decode cX12_walk 227 = .ok (.ifCond .lt 25, 3) := by decide +kernel
theorem dX12_walk_230 : decode cX12_walk 230 = .ok (.aload_n 0, 1) := by decide +kernel
theorem dX12_walk_231 : decode cX12_walk 231 = .ok (.getfield 246, 3) := by decide +kernel
theorem dX12_walk_234 : decode cX12_walk 234 = .ok (.ldc2_w 265, 3) := by decide +kernel
theorem dX12_walk_237 : decode cX12_walk 237 = .ok (.lcmp, 1) := by decide +kernel
theorem dX12_walk_238 : decode cX12_walk 238 = .ok (.ifCond .gt 14, 3) := by decide +kernel
theorem dX12_walk_241 : decode cX12_walk 241 = .ok (.aload_n 0, 1) := by decide +kernel
theorem dX12_walk_242 : decode cX12_walk 242 = .ok (.getfield 246, 3) := by decide +kernel
theorem dX12_walk_245 : decode cX12_walk 245 = .ok (.ldc2_w 267, 3) := by decide +kernel
theorem dX12_walk_248 : decode cX12_walk 248 = .ok (.lcmp, 1) := by decide +kernel
theorem dX12_walk_249 : decode cX12_walk 249 = .ok (.ifCond .ge 4, 3) := by decide +kernel
theorem dX12_walk_252 : decode cX12_walk 252 = .ok (.return_, 1) := by decide +kernel
theorem dX12_walk_253 : decode cX12_walk 253 = .ok (.aload_n 0, 1) := by decide +kernel
theorem dX12_walk_254 : decode cX12_walk 254 = .ok (.getfield 77, 3) := by decide +kernel
theorem dX12_walk_257 : decode cX12_walk 257 = .ok (.iload_n 3, 1) := by decide +kernel
theorem dX12_walk_258 : decode cX12_walk 258 = .ok (.iconst 1, 1) := by decide +kernel
theorem dX12_walk_259 : decode cX12_walk 259 = .ok (.iadd, 1) := by decide +kernel
theorem dX12_walk_260 : decode cX12_walk 260 = .ok (.aload_n 0, 1) := by decide +kernel
theorem dX12_walk_261 : decode cX12_walk 261 = .ok (.getfield 243, 3) := by decide +kernel
theorem dX12_walk_264 : decode cX12_walk 264 = .ok (.l2i, 1) := by decide +kernel
theorem dX12_walk_265 : decode cX12_walk 265 = .ok (.iastore, 1) := by decide +kernel
theorem dX12_walk_266 : decode cX12_walk 266 = .ok (.aload_n 0, 1) := by decide +kernel
theorem dX12_walk_267 : decode cX12_walk 267 = .ok (.getfield 80, 3) := by decide +kernel
theorem dX12_walk_270 : decode cX12_walk 270 = .ok (.iload_n 3, 1) := by decide +kernel
theorem dX12_walk_271 : decode cX12_walk 271 = .ok (.iconst 1, 1) := by decide +kernel
theorem dX12_walk_272 : decode cX12_walk 272 = .ok (.iadd, 1) := by decide +kernel
theorem dX12_walk_273 : decode cX12_walk 273 = .ok (.aload_n 0, 1) := by decide +kernel
theorem dX12_walk_274 : decode cX12_walk 274 = .ok (.getfield 246, 3) := by decide +kernel
theorem dX12_walk_277 : decode cX12_walk 277 = .ok (.l2i, 1) := by decide +kernel
theorem dX12_walk_278 : decode cX12_walk 278 = .ok (.iastore, 1) := by decide +kernel
theorem dX12_walk_279 : decode cX12_walk 279 = .ok (.iinc 3 1, 3) := by decide +kernel
theorem dX12_walk_282 : decode cX12_walk 282 = .ok (.goto (-256), 3) := by decide +kernel
theorem dX12_isBeyond_0 : decode cX12_isBeyond 0 = .ok (.iload_n 0, 1) := by decide +kernel
theorem dX12_isBeyond_1 : decode cX12_isBeyond 1 = .ok (.iload_n 1, 1) := by decide +kernel
theorem dX12_isBeyond_2 : decode cX12_isBeyond 2 = .ok (.ineg, 1) := by decide +kernel
theorem dX12_isBeyond_3 : decode cX12_isBeyond 3 = .ok (.if_icmp .lt 8, 3) := by decide +kernel
theorem dX12_isBeyond_6 : decode cX12_isBeyond 6 = .ok (.iload_n 0, 1) := by decide +kernel
theorem dX12_isBeyond_7 : decode cX12_isBeyond 7 = .ok (.iload_n 1, 1) := by decide +kernel
theorem dX12_isBeyond_8 : decode cX12_isBeyond 8 = .ok (.if_icmp .le 7, 3) := by decide +kernel
theorem dX12_isBeyond_11 : decode cX12_isBeyond 11 = .ok (.iconst 1, 1) := by decide +kernel
theorem dX12_isBeyond_12 : decode cX12_isBeyond 12 = .ok (.goto 4, 3) := by decide +kernel
theorem dX12_isBeyond_15 : decode cX12_isBeyond 15 = .ok (.iconst 0, 1) := by decide +kernel
theorem dX12_isBeyond_16 : decode cX12_isBeyond 16 = .ok (.ireturn, 1) := by decide +kernel
theorem dX12_write_0 : decode cX12_write 0 = .ok (.aload_n 0, 1) := by decide +kernel
theorem dX12_write_1 : decode cX12_write 1 = .ok (.iconst 0, 1) := by decide +kernel
theorem dX12_write_2 : decode cX12_write 2 = .ok (.putfield 107, 3) := by decide +kernel
theorem dX12_write_5 : decode cX12_write 5 = .ok (.aload_n 0, 1) := by decide +kernel
theorem dX12_write_6 : decode cX12_write 6 = .ok (.getfield 53, 3) := by decide +kernel
theorem dX12_write_9 : decode cX12_write 9 = .ok (.iconst 1, 1) := by decide +kernel
theorem dX12_write_10 : decode cX12_write 10 = .ok (.if_icmp .ne 7, 3) := by decide +kernel
theorem dX12_write_13 : decode cX12_write 13 = .ok (.iconst 0, 1) := by decide +kernel
theorem dX12_write_14 : decode cX12_write 14 = .ok (.goto 4, 3) := by decide +kernel
theorem dX12_write_17 : decode cX12_write 17 = .ok (.iload_n 2, 1) := by decide +kernel
theorem dX12_write_18 : decode cX12_write 18 = .ok (.istore_n 3, 1) := by decide +kernel
theorem dX12_write_19 : decode cX12_write 19 = .ok (.aload_n 0, 1) := by decide +kernel
theorem dX12_write_20 : decode cX12_write 20 = .ok (.getfield 62, 3) := by decide +kernel
theorem dX12_write_23 : decode cX12_write 23 = .ok (.ifCond .eq 21, 3) := by decide +kernel
theorem dX12_write_26 : decode cX12_write 26 = .ok (.iload_n 1, 1) := by decide +kernel
theorem dX12_write_27 : decode cX12_write 27 = .ok (.ldc 231, 2) := by decide +kernel
theorem dX12_write_29 : decode cX12_write 29 = .ok (.invokestatic 269, 3) := by decide +kernel
theorem dX12_write_32 : decode cX12_write 32 = .ok (.ifCond .ne 12, 3) := by decide +kernel
theorem dX12_write_35 : decode cX12_write 35 = .ok (.iload_n 3, 1) := by decide +kernel
theorem dX12_write_36 : decode cX12_write 36 = .ok (.ldc 231, 2) := by decide +kernel
theorem dX12_write_38 : decode cX12_write 38 = .ok (.invokestatic 269, 3) := by decide +kernel
theorem dX12_write_41 : decode cX12_write 41 = .ok (.ifCond .eq 5, 3) := by decide +kernel
theorem dX12_write_44 : decode cX12_write 44 = .ok (.iconst (-1), 1) := by decide +kernel
theorem dX12_write_45 : decode cX12_write 45 = .ok (.ireturn, 1) := by decide +kernel
theorem dX12_write_46 : decode cX12_write 46 = .ok (.aload_n 0, 1) := by decide +kernel
theorem dX12_write_47 : decode cX12_write 47 = .ok (.iload_n 1, 1) := by decide +kernel
theorem dX12_write_48 : decode cX12_write 48 = .ok (.iload_n 3, 1) := by decide +kernel
theorem dX12_write_49 : decode cX12_write 49 = .ok (.invokevirtual 273, 3) := by decide +kernel
theorem dX12_write_52 : decode cX12_write 52 = .ok (.aload_n 0, 1) := by decide +kernel
theorem dX12_write_53 : decode cX12_write 53 = .ok (.iconst 1, 1) := by decide +kernel
theorem dX12_write_54 : decode cX12_write 54 = .ok (.putfield 277, 3) := by decide +kernel
theorem dX12_write_57 : decode cX12_write 57 = .ok (.aload_n 0, 1) := by decide +kernel
theorem dX12_write_58 : decode cX12_write 58 = .ok (.aload_n 0, 1) := by decide +kernel
theorem dX12_write_59 : decode cX12_write 59 = .ok (.getfield 259, 3) := by decide +kernel
theorem dX12_write_62 : decode cX12_write 62 = .ok (.putfield 280, 3) := by decide +kernel
theorem dX12_write_65 : decode cX12_write 65 = .ok (.aload_n 0, 1) := by decide +kernel
theorem dX12_write_66 : decode cX12_write 66 = .ok (.aload_n 0, 1) := by decide +kernel
theorem dX12_write_67 : decode cX12_write 67 = .ok (.getfield 256, 3) := by decide +kernel
theorem dX12_write_70 : decode cX12_write 70 = .ok (.putfield 283, 3) := by decide +kernel
theorem dX12_write_73 : decode cX12_write 73 = .ok (.aload_n 0, 1) := by decide +kernel
theorem dX12_write_74 : decode cX12_write 74 = .ok (.aload_n 0, 1) := by decide +kernel
theorem dX12_write_75 : decode cX12_write 75 = .ok (.getfield 253, 3) := by decide +kernel
theorem dX12_write_78 : decode cX12_write 78 = .ok (.putfield 286, 3) := by decide +kernel
theorem dX12_write_81 : decode cX12_write 81 = .ok (.iconst 0, 1) := by decide +kernel
theorem dX12_write_82 : decode cX12_write 82 = .ok (.istore 4, 2) := by decide +kernel
theorem dX12_write_84 : decode cX12_write 84 = .ok (.iload 4, 2) := by decide +kernel
theorem dX12_write_86 : decode cX12_write 86 = .ok (.aload_n 0, 1) := by decide +kernel
theorem dX12_write_87 : decode cX12_write 87 = .ok (.getfield 253, 3) := by decide +kernel
theorem dX12_write_90 : decode cX12_write 90 = .ok (.if_icmp .ge 23, 3) := by decide +kernel
theorem dX12_write_93 : decode cX12_write 93 = .ok (.aload_n 0, 1) := by decide +kernel
theorem dX12_write_94 : decode cX12_write 94 = .ok (.getfield 86, 3) := by decide +kernel
theorem dX12_write_97 : decode cX12_write 97 = .ok (.iload 4, 2) := by decide +kernel
theorem dX12_write_99 : decode cX12_write 99 = .ok (.aload_n 0, 1) := by decide +kernel
theorem dX12_write_100 : decode cX12_write 100 = .ok (.getfield 83, 3) := by decide +kernel
theorem dX12_write_103 : decode cX12_write 103 = .ok (.iload 4, 2) := by decide +kernel
theorem dX12_write_105 : decode cX12_write 105 = .ok (.iaload, 1) := by decide +kernel
theorem dX12_write_106 : decode cX12_write 106 = .ok (.iastore, 1) := by decide +kernel
theorem dX12_write_107 : decode cX12_write 107 = .ok (.iinc 4 1, 3) := by decide +kernel
theorem dX12_write_110 : decode cX12_write 110 = .ok (.goto (-26), 3) := by decide +kernel
theorem dX12_write_113 : decode cX12_write 113 = .ok (.aload_n 0, 1) := by decide +kernel
theorem dX12_write_114 : decode cX12_write 114 = .ok (.getfield 262, 3) := by decide +kernel
theorem dX12_write_117 : decode cX12_write 117 = .ok (.ireturn, 1) := by decide +kernel
theorem dX12_written_0 : decode cX12_written 0 = .ok (.aload_n 0, 1) := by decide +kernel
theorem dX12_written_1 : decode cX12_written 1 = .ok (.iconst 0, 1) := by decide +kernel
theorem dX12_written_2 : decode cX12_written 2 = .ok (.putfield 107, 3) := by decide +kernel
theorem dX12_written_5 : decode cX12_written 5 = .ok (.aload_n 0, 1) := by decide +kernel
theorem dX12_written_6 : decode cX12_written 6 = .ok (.getfield 277, 3) := by decide +kernel
theorem dX12_written_9 : decode cX12_written 9 = .ok (.ifCond .ne 5, 3) := by decide +kernel
theorem dX12_written_12 : decode cX12_written 12 = .ok (.iconst (-1), 1) := by decide +kernel
theorem dX12_written_13 : decode cX12_written 13 = .ok (.ireturn, 1) := by decide +kernel
theorem dX12_written_14 : decode cX12_written 14 = .ok (.iload_n 1, 1) := by decide +kernel
theorem dX12_written_15 : decode cX12_written 15 = .ok (.ifCond .ne 10, 3) := by decide +kernel
theorem dX12_written_18 : decode cX12_written 18 = .ok (.aload_n 0, 1) := by decide +kernel
theorem dX12_written_19 : decode cX12_written 19 = .ok (.getfield 280, 3) := by decide +kernel
theorem dX12_written_22 : decode cX12_written 22 = .ok (.goto 16, 3) := by decide +kernel
theorem dX12_written_25 : decode cX12_written 25 = .ok (.iload_n 1, 1) := by decide +kernel
theorem dX12_written_26 : decode cX12_written 26 = .ok (.iconst 1, 1) := by decide +kernel
theorem dX12_written_27 : decode cX12_written 27 = .ok (.if_icmp .ne 10, 3) := by decide +kernel
theorem dX12_written_30 : decode cX12_written 30 = .ok (.aload_n 0, 1) := by decide +kernel
theorem dX12_written_31 : decode cX12_written 31 = .ok (.getfield 283, 3) := by decide +kernel
theorem dX12_written_34 : decode cX12_written 34 = .ok (.goto 4, 3) := by decide +kernel
theorem dX12_written_37 : decode cX12_written 37 = .ok (.iconst (-1), 1) := by decide +kernel
theorem dX12_written_38 : decode cX12_written 38 = .ok (.ireturn, 1) := by decide +kernel
theorem dX12_place_0 : decode cX12_place 0 = .ok (.aload_n 0, 1) := by decide +kernel
theorem dX12_place_1 : decode cX12_place 1 = .ok (.iconst 0, 1) := by decide +kernel
theorem dX12_place_2 : decode cX12_place 2 = .ok (.putfield 107, 3) := by decide +kernel
theorem dX12_place_5 : decode cX12_place 5 = .ok (.aload_n 0, 1) := by decide +kernel
theorem dX12_place_6 : decode cX12_place 6 = .ok (.getfield 277, 3) := by decide +kernel
theorem dX12_place_9 : decode cX12_place 9 = .ok (.ifCond .eq 15, 3) := by decide +kernel
theorem dX12_place_12 : decode cX12_place 12 = .ok (.iload_n 1, 1) := by decide +kernel
theorem dX12_place_13 : decode cX12_place 13 = .ok (.ifCond .lt 11, 3) := by decide +kernel
theorem dX12_place_16 : decode cX12_place 16 = .ok (.iload_n 1, 1) := by decide +kernel
theorem dX12_place_17 : decode cX12_place 17 = .ok (.aload_n 0, 1) := by decide +kernel
theorem dX12_place_18 : decode cX12_place 18 = .ok (.getfield 286, 3) := by decide +kernel
theorem dX12_place_21 : decode cX12_place 21 = .ok (.if_icmp .lt 7, 3) := by decide +kernel
theorem dX12_place_24 : decode cX12_place 24 = .ok (.iconst (-1), 1) := by decide +kernel
theorem dX12_place_25 : decode cX12_place 25 = .ok (.goto 9, 3) := by decide +kernel
theorem dX12_place_28 : decode cX12_place 28 = .ok (.aload_n 0, 1) := by decide +kernel
theorem dX12_place_29 : decode cX12_place 29 = .ok (.getfield 86, 3) := by decide +kernel
theorem dX12_place_32 : decode cX12_place 32 = .ok (.iload_n 1, 1) := by decide +kernel
theorem dX12_place_33 : decode cX12_place 33 = .ok (.iaload, 1) := by decide +kernel
theorem dX12_place_34 : decode cX12_place 34 = .ok (.ireturn, 1) := by decide +kernel
theorem dX12_all_0 : decode cX12_all 0 = .ok (.aload_n 0, 1) := by decide +kernel
theorem dX12_all_1 : decode cX12_all 1 = .ok (.getfield 62, 3) := by decide +kernel
theorem dX12_all_4 : decode cX12_all 4 = .ok (.ifCond .eq 13, 3) := by decide +kernel
theorem dX12_all_7 : decode cX12_all 7 = .ok (.iload_n 1, 1) := by decide +kernel
theorem dX12_all_8 : decode cX12_all 8 = .ok (.ifCond .lt 9, 3) := by decide +kernel
theorem dX12_all_11 : decode cX12_all 11 = .ok (.iload_n 1, 1) := by decide +kernel
theorem dX12_all_12 : decode cX12_all 12 = .ok (.bipush 10, 2) := by decide +kernel
theorem dX12_all_14 : decode cX12_all 14 = .ok (.if_icmp .le 5, 3) := by decide +kernel
theorem dX12_all_17 : decode cX12_all 17 = .ok (.iconst 0, 1) := by decide +kernel
theorem dX12_all_18 : decode cX12_all 18 = .ok (.ireturn, 1) := by decide +kernel
theorem dX12_all_19 : decode cX12_all 19 = .ok (.aload_n 0, 1) := by decide +kernel
theorem dX12_all_20 : decode cX12_all 20 = .ok (.iconst 0, 1) := by decide +kernel
theorem dX12_all_21 : decode cX12_all 21 = .ok (.putfield 289, 3) := by decide +kernel
theorem dX12_all_24 : decode cX12_all 24 = .ok (.aload_n 0, 1) := by decide +kernel
theorem dX12_all_25 : decode cX12_all 25 = .ok (.iconst 0, 1) := by decide +kernel
theorem dX12_all_26 : decode cX12_all 26 = .ok (.putfield 292, 3) := by decide +kernel
theorem dX12_all_29 : decode cX12_all 29 = .ok (.iload_n 1, 1) := by decide +kernel
theorem dX12_all_30 : decode cX12_all 30 = .ok (.ineg, 1) := by decide +kernel
theorem dX12_all_31 : decode cX12_all 31 = .ok (.istore_n 2, 1) := by decide +kernel
theorem dX12_all_32 : decode cX12_all 32 = .ok (.iload_n 2, 1) := by decide +kernel
theorem dX12_all_33 : decode cX12_all 33 = .ok (.iload_n 1, 1) := by decide +kernel
theorem dX12_all_34 : decode cX12_all 34 = .ok (.if_icmp .gt 87, 3) := by decide +kernel
theorem dX12_all_37 : decode cX12_all 37 = .ok (.aload_n 0, 1) := by decide +kernel
theorem dX12_all_38 : decode cX12_all 38 = .ok (.getfield 53, 3) := by decide +kernel
theorem dX12_all_41 : decode cX12_all 41 = .ok (.iconst 1, 1) := by decide +kernel
theorem dX12_all_42 : decode cX12_all 42 = .ok (.if_icmp .ne 7, 3) := by decide +kernel
theorem dX12_all_45 : decode cX12_all 45 = .ok (.iconst 0, 1) := by decide +kernel
theorem dX12_all_46 : decode cX12_all 46 = .ok (.goto 5, 3) := by decide +kernel
theorem dX12_all_49 : decode cX12_all 49 = .ok (.iload_n 1, 1) := by decide +kernel
theorem dX12_all_50 : decode cX12_all 50 = .ok (.ineg, 1) := by decide +kernel
theorem dX12_all_51 : decode cX12_all 51 = .ok (.istore_n 3, 1) := by decide +kernel
theorem dX12_all_52 : decode cX12_all 52 = .ok (.iload_n 3, 1) := by decide +kernel
theorem dX12_all_53 : decode cX12_all 53 = .ok (.aload_n 0, 1) := by decide +kernel
theorem dX12_all_54 : decode cX12_all 54 = .ok (.getfield 53, 3) := by decide +kernel
theorem dX12_all_57 : decode cX12_all 57 = .ok (.iconst 1, 1) := by decide +kernel
theorem dX12_all_58 : decode cX12_all 58 = .ok (.if_icmp .ne 7, 3) := by decide +kernel
theorem dX12_all_61 : decode cX12_all 61 = .ok (.iconst 0, 1) := by decide +kernel
theorem dX12_all_62 : decode cX12_all 62 = .ok (.goto 4, 3) := by decide +kernel
theorem dX12_all_65 : decode cX12_all 65 = .ok (.iload_n 1, 1) := by decide +kernel
theorem dX12_all_66 : decode cX12_all 66 = .ok (.if_icmp .gt 49, 3) := by decide +kernel
theorem dX12_all_69 : decode cX12_all 69 = .ok (.aload_n 0, 1) := by decide +kernel
theorem dX12_all_70 : decode cX12_all 70 = .ok (.iload_n 2, 1) := by decide +kernel
theorem dX12_all_71 : decode cX12_all 71 = .ok (.iload_n 3, 1) := by decide +kernel
theorem dX12_all_72 : decode cX12_all 72 = .ok (.invokevirtual 273, 3) := by decide +kernel
theorem dX12_all_75 : decode cX12_all 75 = .ok (.aload_n 0, 1) := by decide +kernel
theorem dX12_all_76 : decode cX12_all 76 = .ok (.getfield 262, 3) := by decide +kernel
theorem dX12_all_79 : decode cX12_all 79 = .ok (.iconst 2, 1) := by decide +kernel
theorem dX12_all_80 : decode cX12_all 80 = .ok (.if_icmp .ne 5, 3) := by decide +kernel
theorem dX12_all_83 : decode cX12_all 83 = .ok (.iconst 0, 1) := by decide +kernel
theorem dX12_all_84 : decode cX12_all 84 = .ok (.ireturn, 1) := by decide +kernel
theorem dX12_all_85 : decode cX12_all 85 = .ok (.aload_n 0, 1) := by decide +kernel
theorem dX12_all_86 : decode cX12_all 86 = .ok (.getfield 262, 3) := by decide +kernel
theorem dX12_all_89 : decode cX12_all 89 = .ok (.ifCond .ne 16, 3) := by decide +kernel
theorem dX12_all_92 : decode cX12_all 92 = .ok (.aload_n 0, 1) := by decide +kernel
theorem dX12_all_93 : decode cX12_all 93 = .ok (.dup, 1) := by decide +kernel
theorem dX12_all_94 : decode cX12_all 94 = .ok (.getfield 292, 3) := by decide +kernel
theorem dX12_all_97 : decode cX12_all 97 = .ok (.iconst 1, 1) := by decide +kernel
theorem dX12_all_98 : decode cX12_all 98 = .ok (.iadd, 1) := by decide +kernel
theorem dX12_all_99 : decode cX12_all 99 = .ok (.putfield 292, 3) := by decide +kernel
theorem dX12_all_102 : decode cX12_all 102 = .ok (.goto 7, 3) := by decide +kernel
theorem dX12_all_105 : decode cX12_all 105 = .ok (.aload_n 0, 1) := by decide +kernel
theorem dX12_all_106 : decode cX12_all 106 = .ok (.invokevirtual 295, 3) := by decide +kernel
theorem dX12_all_109 : decode cX12_all 109 = .ok (.iinc 3 1, 3) := by decide +kernel
theorem dX12_all_112 : decode cX12_all 112 = .ok (.goto (-60), 3) := by decide +kernel
theorem dX12_all_115 : decode cX12_all 115 = .ok (.iinc 2 1, 3) := by decide +kernel
theorem dX12_all_118 : decode cX12_all 118 = .ok (.goto (-86), 3) := by decide +kernel
theorem dX12_all_121 : decode cX12_all 121 = .ok (.iconst 1, 1) := by decide +kernel
theorem dX12_all_122 : decode cX12_all 122 = .ok (.ireturn, 1) := by decide +kernel
theorem dX12_keep_0 : decode cX12_keep 0 = .ok (.aload_n 0, 1) := by decide +kernel
theorem dX12_keep_1 : decode cX12_keep 1 = .ok (.getfield 259, 3) := by decide +kernel
theorem dX12_keep_4 : decode cX12_keep 4 = .ok (.istore_n 1, 1) := by decide +kernel
theorem dX12_keep_5 : decode cX12_keep 5 = .ok (.aload_n 0, 1) := by decide +kernel
theorem dX12_keep_6 : decode cX12_keep 6 = .ok (.getfield 259, 3) := by decide +kernel
theorem dX12_keep_9 : decode cX12_keep 9 = .ok (.istore_n 2, 1) := by decide +kernel
theorem dX12_keep_10 : decode cX12_keep 10 = .ok (.iload_n 2, 1) := by decide +kernel
theorem dX12_keep_11 : decode cX12_keep 11 = .ok (.aload_n 0, 1) := by decide +kernel
theorem dX12_keep_12 : decode cX12_keep 12 = .ok (.getfield 259, 3) := by decide +kernel
theorem dX12_keep_15 : decode cX12_keep 15 = .ok (.aload_n 0, 1) := by decide +kernel
theorem dX12_keep_16 : decode cX12_keep 16 = .ok (.getfield 256, 3) := by decide +kernel
theorem dX12_keep_19 : decode cX12_keep 19 = .ok (.iadd, 1) := by decide +kernel
theorem dX12_keep_20 : decode cX12_keep 20 = .ok (.if_icmp .ge 56, 3) := by decide +kernel
theorem dX12_keep_23 : decode cX12_keep 23 = .ok (.aload_n 0, 1) := by decide +kernel
theorem dX12_keep_24 : decode cX12_keep 24 = .ok (.getfield 77, 3) := by decide +kernel
theorem dX12_keep_27 : decode cX12_keep 27 = .ok (.iload_n 2, 1) := by decide +kernel
theorem dX12_keep_28 : decode cX12_keep 28 = .ok (.iaload, 1) := by decide +kernel
theorem dX12_keep_29 : decode cX12_keep 29 = .ok (.aload_n 0, 1) := by decide +kernel
theorem dX12_keep_30 : decode cX12_keep 30 = .ok (.getfield 77, 3) := by decide +kernel
theorem dX12_keep_33 : decode cX12_keep 33 = .ok (.iload_n 1, 1) := by decide +kernel
theorem dX12_keep_34 : decode cX12_keep 34 = .ok (.iaload, 1) := by decide +kernel
theorem dX12_keep_35 : decode cX12_keep 35 = .ok (.if_icmp .lt 33, 3) := by decide +kernel
theorem dX12_keep_38 : decode cX12_keep 38 = .ok (.aload_n 0, 1) := by decide +kernel
theorem dX12_keep_39 : decode cX12_keep 39 = .ok (.getfield 77, 3) := by decide +kernel
theorem dX12_keep_42 : decode cX12_keep 42 = .ok (.iload_n 2, 1) := by decide +kernel
theorem dX12_keep_43 : decode cX12_keep 43 = .ok (.iaload, 1) := by decide +kernel
theorem dX12_keep_44 : decode cX12_keep 44 = .ok (.aload_n 0, 1) := by decide +kernel
theorem dX12_keep_45 : decode cX12_keep 45 = .ok (.getfield 77, 3) := by decide +kernel
theorem dX12_keep_48 : decode cX12_keep 48 = .ok (.iload_n 1, 1) := by decide +kernel
theorem dX12_keep_49 : decode cX12_keep 49 = .ok (.iaload, 1) := by decide +kernel
theorem dX12_keep_50 : decode cX12_keep 50 = .ok (.if_icmp .ne 20, 3) := by decide +kernel
theorem dX12_keep_53 : decode cX12_keep 53 = .ok (.aload_n 0, 1) := by decide +kernel
theorem dX12_keep_54 : decode cX12_keep 54 = .ok (.getfield 80, 3) := by decide +kernel
theorem dX12_keep_57 : decode cX12_keep 57 = .ok (.iload_n 2, 1) := by decide +kernel
theorem dX12_keep_58 : decode cX12_keep 58 = .ok (.iaload, 1) := by decide +kernel
theorem dX12_keep_59 : decode cX12_keep 59 = .ok (.aload_n 0, 1) := by decide +kernel
theorem dX12_keep_60 : decode cX12_keep 60 = .ok (.getfield 80, 3) := by decide +kernel
theorem dX12_keep_63 : decode cX12_keep 63 = .ok (.iload_n 1, 1) := by decide +kernel
theorem dX12_keep_64 : decode cX12_keep 64 = .ok (.iaload, 1) := by decide +kernel
theorem dX12_keep_65 : decode cX12_keep 65 = .ok (.if_icmp .ge 5, 3) := by decide +kernel
theorem dX12_keep_68 : decode cX12_keep 68 = .ok (.iload_n 2, 1) := by decide +kernel
theorem dX12_keep_69 : decode cX12_keep 69 = .ok (.istore_n 1, 1) := by decide +kernel
theorem dX12_keep_70 : decode cX12_keep 70 = .ok (.iinc 2 1, 3) := by decide +kernel
theorem dX12_keep_73 : decode cX12_keep 73 = .ok (.goto (-63), 3) := by decide +kernel
theorem dX12_keep_76 : decode cX12_keep 76 = .ok (.iconst 0, 1) := by decide +kernel
theorem dX12_keep_77 : decode cX12_keep 77 = .ok (.istore_n 2, 1) := by decide +kernel
theorem dX12_keep_78 : decode cX12_keep 78 = .ok (.iload_n 2, 1) := by decide +kernel
theorem dX12_keep_79 : decode cX12_keep 79 = .ok (.aload_n 0, 1) := by decide +kernel
theorem dX12_keep_80 : decode cX12_keep 80 = .ok (.getfield 289, 3) := by decide +kernel
theorem dX12_keep_83 : decode cX12_keep 83 = .ok (.if_icmp .ge 54, 3) := by decide +kernel
theorem dX12_keep_86 : decode cX12_keep 86 = .ok (.aload_n 0, 1) := by decide +kernel
theorem dX12_keep_87 : decode cX12_keep 87 = .ok (.getfield 101, 3) := by decide +kernel
theorem dX12_keep_90 : decode cX12_keep 90 = .ok (.iload_n 2, 1) := by decide +kernel
theorem dX12_keep_91 : decode cX12_keep 91 = .ok (.iaload, 1) := by decide +kernel
theorem dX12_keep_92 : decode cX12_keep 92 = .ok (.aload_n 0, 1) := by decide +kernel
theorem dX12_keep_93 : decode cX12_keep 93 = .ok (.getfield 77, 3) := by decide +kernel
theorem dX12_keep_96 : decode cX12_keep 96 = .ok (.iload_n 1, 1) := by decide +kernel
theorem dX12_keep_97 : decode cX12_keep 97 = .ok (.iaload, 1) := by decide +kernel
theorem dX12_keep_98 : decode cX12_keep 98 = .ok (.if_icmp .lt 33, 3) := by decide +kernel
theorem dX12_keep_101 : decode cX12_keep 101 = .ok (.aload_n 0, 1) := by decide +kernel
theorem dX12_keep_102 : decode cX12_keep 102 = .ok (.getfield 101, 3) := by decide +kernel
theorem dX12_keep_105 : decode cX12_keep 105 = .ok (.iload_n 2, 1) := by decide +kernel
theorem dX12_keep_106 : decode cX12_keep 106 = .ok (.iaload, 1) := by decide +kernel
theorem dX12_keep_107 : decode cX12_keep 107 = .ok (.aload_n 0, 1) := by decide +kernel
theorem dX12_keep_108 : decode cX12_keep 108 = .ok (.getfield 77, 3) := by decide +kernel
theorem dX12_keep_111 : decode cX12_keep 111 = .ok (.iload_n 1, 1) := by decide +kernel
theorem dX12_keep_112 : decode cX12_keep 112 = .ok (.iaload, 1) := by decide +kernel
theorem dX12_keep_113 : decode cX12_keep 113 = .ok (.if_icmp .ne 24, 3) := by decide +kernel
theorem dX12_keep_116 : decode cX12_keep 116 = .ok (.aload_n 0, 1) := by decide +kernel
theorem dX12_keep_117 : decode cX12_keep 117 = .ok (.getfield 104, 3) := by decide +kernel
theorem dX12_keep_120 : decode cX12_keep 120 = .ok (.iload_n 2, 1) := by decide +kernel
theorem dX12_keep_121 : decode cX12_keep 121 = .ok (.iaload, 1) := by decide +kernel
theorem dX12_keep_122 : decode cX12_keep 122 = .ok (.aload_n 0, 1) := by decide +kernel
theorem dX12_keep_123 : decode cX12_keep 123 = .ok (.getfield 80, 3) := by decide +kernel
theorem dX12_keep_126 : decode cX12_keep 126 = .ok (.iload_n 1, 1) := by decide +kernel
theorem dX12_keep_127 : decode cX12_keep 127 = .ok (.iaload, 1) := by decide +kernel
theorem dX12_keep_128 : decode cX12_keep 128 = .ok (.if_icmp .ge 9, 3) := by decide +kernel
theorem dX12_keep_131 : decode cX12_keep 131 = .ok (.iinc 2 1, 3) := by decide +kernel
theorem dX12_keep_134 : decode cX12_keep 134 = .ok (.goto (-56), 3) := by decide +kernel
theorem dX12_keep_137 : decode cX12_keep 137 = .ok (.iload_n 2, 1) := by decide +kernel
theorem dX12_keep_138 : decode cX12_keep 138 = .ok (.aload_n 0, 1) := by decide +kernel
theorem dX12_keep_139 : decode cX12_keep 139 = .ok (.getfield 289, 3) := by decide +kernel
theorem dX12_keep_142 : decode cX12_keep 142 = .ok (.if_icmp .ge 34, 3) := by decide +kernel
theorem dX12_keep_145 : decode cX12_keep 145 = .ok (.aload_n 0, 1) := by decide +kernel
theorem dX12_keep_146 : decode cX12_keep 146 = .ok (.getfield 101, 3) := by decide +kernel
theorem dX12_keep_149 : decode cX12_keep 149 = .ok (.iload_n 2, 1) := by decide +kernel
theorem dX12_keep_150 : decode cX12_keep 150 = .ok (.iaload, 1) := by decide +kernel
theorem dX12_keep_151 : decode cX12_keep 151 = .ok (.aload_n 0, 1) := by decide +kernel
theorem dX12_keep_152 : decode cX12_keep 152 = .ok (.getfield 77, 3) := by decide +kernel
theorem dX12_keep_155 : decode cX12_keep 155 = .ok (.iload_n 1, 1) := by decide +kernel
theorem dX12_keep_156 : decode cX12_keep 156 = .ok (.iaload, 1) := by decide +kernel
theorem dX12_keep_157 : decode cX12_keep 157 = .ok (.if_icmp .ne 19, 3) := by decide +kernel
theorem dX12_keep_160 : decode cX12_keep 160 = .ok (.aload_n 0, 1) := by decide +kernel
theorem dX12_keep_161 : decode cX12_keep 161 = .ok (.getfield 104, 3) := by decide +kernel
theorem dX12_keep_164 : decode cX12_keep 164 = .ok (.iload_n 2, 1) := by decide +kernel
theorem dX12_keep_165 : decode cX12_keep 165 = .ok (.iaload, 1) := by decide +kernel
theorem dX12_keep_166 : decode cX12_keep 166 = .ok (.aload_n 0, 1) := by decide +kernel
theorem dX12_keep_167 : decode cX12_keep 167 = .ok (.getfield 80, 3) := by decide +kernel
theorem dX12_keep_170 : decode cX12_keep 170 = .ok (.iload_n 1, 1) := by decide +kernel
theorem dX12_keep_171 : decode cX12_keep 171 = .ok (.iaload, 1) := by decide +kernel
theorem dX12_keep_172 : decode cX12_keep 172 = .ok (.if_icmp .ne 4, 3) := by decide +kernel
theorem dX12_keep_175 : decode cX12_keep 175 = .ok (.return_, 1) := by decide +kernel
theorem dX12_keep_176 : decode cX12_keep 176 = .ok (.aload_n 0, 1) := by decide +kernel
theorem dX12_keep_177 : decode cX12_keep 177 = .ok (.getfield 289, 3) := by decide +kernel
theorem dX12_keep_180 : decode cX12_keep 180 = .ok (.istore_n 3, 1) := by decide +kernel
theorem dX12_keep_181 : decode cX12_keep 181 = .ok (.iload_n 3, 1) := by decide +kernel
theorem dX12_keep_182 : decode cX12_keep 182 = .ok (.iload_n 2, 1) := by decide +kernel
theorem dX12_keep_183 : decode cX12_keep 183 = .ok (.if_icmp .le 51, 3) := by decide +kernel
theorem dX12_keep_186 : decode cX12_keep 186 = .ok (.aload_n 0, 1) := by decide +kernel
theorem dX12_keep_187 : decode cX12_keep 187 = .ok (.getfield 98, 3) := by decide +kernel
theorem dX12_keep_190 : decode cX12_keep 190 = .ok (.iload_n 3, 1) := by decide +kernel
theorem dX12_keep_191 : decode cX12_keep 191 = .ok (.aload_n 0, 1) := by decide +kernel
theorem dX12_keep_192 : decode cX12_keep 192 = .ok (.getfield 98, 3) := by decide +kernel
theorem dX12_keep_195 : decode cX12_keep 195 = .ok (.iload_n 3, 1) := by decide +kernel
theorem dX12_keep_196 : decode cX12_keep 196 = .ok (.iconst 1, 1) := by decide +kernel
theorem dX12_keep_197 : decode cX12_keep 197 = .ok (.isub, 1) := by decide +kernel
theorem dX12_keep_198 : decode cX12_keep 198 = .ok (.iaload, 1) := by decide +kernel
theorem dX12_keep_199 : decode cX12_keep 199 = .ok (.iastore, 1) := by decide +kernel
theorem dX12_keep_200 : decode cX12_keep 200 = .ok (.aload_n 0, 1) := by decide +kernel
theorem dX12_keep_201 : decode cX12_keep 201 = .ok (.getfield 101, 3) := by decide +kernel
theorem dX12_keep_204 : decode cX12_keep 204 = .ok (.iload_n 3, 1) := by decide +kernel
theorem dX12_keep_205 : decode cX12_keep 205 = .ok (.aload_n 0, 1) := by decide +kernel
theorem dX12_keep_206 : decode cX12_keep 206 = .ok (.getfield 101, 3) := by decide +kernel
theorem dX12_keep_209 : decode cX12_keep 209 = .ok (.iload_n 3, 1) := by decide +kernel
theorem dX12_keep_210 : decode cX12_keep 210 = .ok (.iconst 1, 1) := by decide +kernel
theorem dX12_keep_211 : decode cX12_keep 211 = .ok (.isub, 1) := by decide +kernel
theorem dX12_keep_212 : decode cX12_keep 212 = .ok (.iaload, 1) := by decide +kernel
theorem dX12_keep_213 : decode cX12_keep 213 = .ok (.iastore, 1) := by decide +kernel
theorem dX12_keep_214 : decode cX12_keep 214 = .ok (.aload_n 0, 1) := by decide +kernel
theorem dX12_keep_215 : decode cX12_keep 215 = .ok (.getfield 104, 3) := by decide +kernel
theorem dX12_keep_218 : decode cX12_keep 218 = .ok (.iload_n 3, 1) := by decide +kernel
theorem dX12_keep_219 : decode cX12_keep 219 = .ok (.aload_n 0, 1) := by decide +kernel
theorem dX12_keep_220 : decode cX12_keep 220 = .ok (.getfield 104, 3) := by decide +kernel
theorem dX12_keep_223 : decode cX12_keep 223 = .ok (.iload_n 3, 1) := by decide +kernel
theorem dX12_keep_224 : decode cX12_keep 224 = .ok (.iconst 1, 1) := by decide +kernel
theorem dX12_keep_225 : decode cX12_keep 225 = .ok (.isub, 1) := by decide +kernel
theorem dX12_keep_226 : decode cX12_keep 226 = .ok (.iaload, 1) := by decide +kernel
theorem dX12_keep_227 : decode cX12_keep 227 = .ok (.iastore, 1) := by decide +kernel
theorem dX12_keep_228 : decode cX12_keep 228 = .ok (.iinc 3 (-1), 3) := by decide +kernel
theorem dX12_keep_231 : decode cX12_keep 231 = .ok (.goto (-50), 3) := by decide +kernel
theorem dX12_keep_234 : decode cX12_keep 234 = .ok (.aload_n 0, 1) := by decide +kernel
theorem dX12_keep_235 : decode cX12_keep 235 = .ok (.getfield 98, 3) := by decide +kernel
theorem dX12_keep_238 : decode cX12_keep 238 = .ok (.iload_n 2, 1) := by decide +kernel
theorem dX12_keep_239 : decode cX12_keep 239 = .ok (.aload_n 0, 1) := by decide +kernel
theorem dX12_keep_240 : decode cX12_keep 240 = .ok (.getfield 256, 3) := by decide +kernel
theorem dX12_keep_243 : decode cX12_keep 243 = .ok (.iastore, 1) := by decide +kernel
theorem dX12_keep_244 : decode cX12_keep 244 = .ok (.aload_n 0, 1) := by decide +kernel
theorem dX12_keep_245 : decode cX12_keep 245 = .ok (.getfield 101, 3) := by decide +kernel
theorem dX12_keep_248 : decode cX12_keep 248 = .ok (.iload_n 2, 1) := by decide +kernel
theorem dX12_keep_249 : decode cX12_keep 249 = .ok (.aload_n 0, 1) := by decide +kernel
theorem dX12_keep_250 : decode cX12_keep 250 = .ok (.getfield 77, 3) := by decide +kernel
theorem dX12_keep_253 : decode cX12_keep 253 = .ok (.iload_n 1, 1) := by decide +kernel
theorem dX12_keep_254 : decode cX12_keep 254 = .ok (.iaload, 1) := by decide +kernel
theorem dX12_keep_255 : decode cX12_keep 255 = .ok (.iastore, 1) := by decide +kernel
theorem dX12_keep_256 : decode cX12_keep 256 = .ok (.aload_n 0, 1) := by decide +kernel
theorem dX12_keep_257 : decode cX12_keep 257 = .ok (.getfield 104, 3) := by decide +kernel
theorem dX12_keep_260 : decode cX12_keep 260 = .ok (.iload_n 2, 1) := by decide +kernel
theorem dX12_keep_261 : decode cX12_keep 261 = .ok (.aload_n 0, 1) := by decide +kernel
theorem dX12_keep_262 : decode cX12_keep 262 = .ok (.getfield 80, 3) := by decide +kernel
theorem dX12_keep_265 : decode cX12_keep 265 = .ok (.iload_n 1, 1) := by decide +kernel
theorem dX12_keep_266 : decode cX12_keep 266 = .ok (.iaload, 1) := by decide +kernel
theorem dX12_keep_267 : decode cX12_keep 267 = .ok (.iastore, 1) := by decide +kernel
theorem dX12_keep_268 : decode cX12_keep 268 = .ok (.aload_n 0, 1) := by decide +kernel
theorem dX12_keep_269 : decode cX12_keep 269 = .ok (.dup, 1) := by decide +kernel
theorem dX12_keep_270 : decode cX12_keep 270 = .ok (.getfield 289, 3) := by decide +kernel
theorem dX12_keep_273 : decode cX12_keep 273 = .ok (.iconst 1, 1) := by decide +kernel
theorem dX12_keep_274 : decode cX12_keep 274 = .ok (.iadd, 1) := by decide +kernel
theorem dX12_keep_275 : decode cX12_keep 275 = .ok (.putfield 289, 3) := by decide +kernel
theorem dX12_keep_278 : decode cX12_keep 278 = .ok (.return_, 1) := by decide +kernel
theorem dX12_rounds_0 : decode cX12_rounds 0 = .ok (.aload_n 0, 1) := by decide +kernel
theorem dX12_rounds_1 : decode cX12_rounds 1 = .ok (.iconst 0, 1) := by decide +kernel
theorem dX12_rounds_2 : decode cX12_rounds 2 = .ok (.putfield 107, 3) := by decide +kernel
theorem dX12_rounds_5 : decode cX12_rounds 5 = .ok (.aload_n 0, 1) := by decide +kernel
theorem dX12_rounds_6 : decode cX12_rounds 6 = .ok (.iload_n 1, 1) := by decide +kernel
theorem dX12_rounds_7 : decode cX12_rounds 7 = .ok (.invokevirtual 298, 3) := by decide +kernel
theorem dX12_rounds_10 : decode cX12_rounds 10 = .ok (.ifCond .ne 5, 3) := by decide +kernel
theorem dX12_rounds_13 : decode cX12_rounds 13 = .ok (.iconst (-1), 1) := by decide +kernel
theorem dX12_rounds_14 : decode cX12_rounds 14 = .ok (.ireturn, 1) := by decide +kernel
theorem dX12_rounds_15 : decode cX12_rounds 15 = .ok (.aload_n 0, 1) := by decide +kernel
theorem dX12_rounds_16 : decode cX12_rounds 16 = .ok (.aload_n 0, 1) := by decide +kernel
theorem dX12_rounds_17 : decode cX12_rounds 17 = .ok (.getfield 289, 3) := by decide +kernel
theorem dX12_rounds_20 : decode cX12_rounds 20 = .ok (.putfield 301, 3) := by decide +kernel
theorem dX12_rounds_23 : decode cX12_rounds 23 = .ok (.iconst 0, 1) := by decide +kernel
theorem dX12_rounds_24 : decode cX12_rounds 24 = .ok (.istore_n 2, 1) := by decide +kernel
theorem dX12_rounds_25 : decode cX12_rounds 25 = .ok (.iload_n 2, 1) := by decide +kernel
theorem dX12_rounds_26 : decode cX12_rounds 26 = .ok (.aload_n 0, 1) := by decide +kernel
theorem dX12_rounds_27 : decode cX12_rounds 27 = .ok (.getfield 289, 3) := by decide +kernel
theorem dX12_rounds_30 : decode cX12_rounds 30 = .ok (.if_icmp .ge 45, 3) := by decide +kernel
theorem dX12_rounds_33 : decode cX12_rounds 33 = .ok (.aload_n 0, 1) := by decide +kernel
theorem dX12_rounds_34 : decode cX12_rounds 34 = .ok (.getfield 89, 3) := by decide +kernel
theorem dX12_rounds_37 : decode cX12_rounds 37 = .ok (.iload_n 2, 1) := by decide +kernel
theorem dX12_rounds_38 : decode cX12_rounds 38 = .ok (.aload_n 0, 1) := by decide +kernel
theorem dX12_rounds_39 : decode cX12_rounds 39 = .ok (.getfield 98, 3) := by decide +kernel
theorem dX12_rounds_42 : decode cX12_rounds 42 = .ok (.iload_n 2, 1) := by decide +kernel
theorem dX12_rounds_43 : decode cX12_rounds 43 = .ok (.iaload, 1) := by decide +kernel
theorem dX12_rounds_44 : decode cX12_rounds 44 = .ok (.iastore, 1) := by decide +kernel
theorem dX12_rounds_45 : decode cX12_rounds 45 = .ok (.aload_n 0, 1) := by decide +kernel
theorem dX12_rounds_46 : decode cX12_rounds 46 = .ok (.getfield 92, 3) := by decide +kernel
theorem dX12_rounds_49 : decode cX12_rounds 49 = .ok (.iload_n 2, 1) := by decide +kernel
theorem dX12_rounds_50 : decode cX12_rounds 50 = .ok (.aload_n 0, 1) := by decide +kernel
theorem dX12_rounds_51 : decode cX12_rounds 51 = .ok (.getfield 101, 3) := by decide +kernel
theorem dX12_rounds_54 : decode cX12_rounds 54 = .ok (.iload_n 2, 1) := by decide +kernel
theorem dX12_rounds_55 : decode cX12_rounds 55 = .ok (.iaload, 1) := by decide +kernel
theorem dX12_rounds_56 : decode cX12_rounds 56 = .ok (.iastore, 1) := by decide +kernel
theorem dX12_rounds_57 : decode cX12_rounds 57 = .ok (.aload_n 0, 1) := by decide +kernel
theorem dX12_rounds_58 : decode cX12_rounds 58 = .ok (.getfield 95, 3) := by decide +kernel
theorem dX12_rounds_61 : decode cX12_rounds 61 = .ok (.iload_n 2, 1) := by decide +kernel
theorem dX12_rounds_62 : decode cX12_rounds 62 = .ok (.aload_n 0, 1) := by decide +kernel
theorem dX12_rounds_63 : decode cX12_rounds 63 = .ok (.getfield 104, 3) := by decide +kernel
theorem dX12_rounds_66 : decode cX12_rounds 66 = .ok (.iload_n 2, 1) := by decide +kernel
theorem dX12_rounds_67 : decode cX12_rounds 67 = .ok (.iaload, 1) := by decide +kernel
theorem dX12_rounds_68 : decode cX12_rounds 68 = .ok (.iastore, 1) := by decide +kernel
theorem dX12_rounds_69 : decode cX12_rounds 69 = .ok (.iinc 2 1, 3) := by decide +kernel
theorem dX12_rounds_72 : decode cX12_rounds 72 = .ok (.goto (-47), 3) := by decide +kernel
theorem dX12_rounds_75 : decode cX12_rounds 75 = .ok (.aload_n 0, 1) := by decide +kernel
theorem dX12_rounds_76 : decode cX12_rounds 76 = .ok (.getfield 301, 3) := by decide +kernel
theorem dX12_rounds_79 : decode cX12_rounds 79 = .ok (.ireturn, 1) := by decide +kernel
theorem dX12_round_0 : decode cX12_round 0 = .ok (.aload_n 0, 1) := by decide +kernel
theorem dX12_round_1 : decode cX12_round 1 = .ok (.iload_n 1, 1) := by decide +kernel
theorem dX12_round_2 : decode cX12_round 2 = .ok (.ifCond .lt 20, 3) := by decide +kernel
theorem dX12_round_5 : decode cX12_round 5 = .ok (.iload_n 1, 1) := by decide +kernel
theorem dX12_round_6 : decode cX12_round 6 = .ok (.aload_n 0, 1) := by decide +kernel
theorem dX12_round_7 : decode cX12_round 7 = .ok (.getfield 301, 3) := by decide +kernel
theorem dX12_round_10 : decode cX12_round 10 = .ok (.if_icmp .ge 12, 3) := by decide +kernel
theorem dX12_round_13 : decode cX12_round 13 = .ok (.iload_n 2, 1) := by decide +kernel
theorem dX12_round_14 : decode cX12_round 14 = .ok (.ifCond .lt 8, 3) := by decide +kernel
theorem dX12_round_17 : decode cX12_round 17 = .ok (.iload_n 2, 1) := by decide +kernel
theorem dX12_round_18 : decode cX12_round 18 = .ok (.iconst 2, 1) := by decide +kernel
theorem dX12_round_19 : decode cX12_round 19 = .ok (.if_icmp .le 7, 3) := by decide +kernel
theorem dX12_round_22 : decode cX12_round 22 = .ok (.iconst 1, 1) := by decide +kernel
theorem dX12_round_23 : decode cX12_round 23 = .ok (.goto 4, 3) := by decide +kernel
theorem dX12_round_26 : decode cX12_round 26 = .ok (.iconst 0, 1) := by decide +kernel
theorem dX12_round_27 : decode cX12_round 27 = .ok (.invokevirtual 170, 3) := by decide +kernel
theorem dX12_round_30 : decode cX12_round 30 = .ok (.ifCond .eq 5, 3) := by decide +kernel
theorem dX12_round_33 : decode cX12_round 33 = .ok (.iconst 0, 1) := by decide +kernel
theorem dX12_round_34 : decode cX12_round 34 = .ok (.ireturn, 1) := by decide +kernel
theorem dX12_round_35 : decode cX12_round 35 = .ok (.iload_n 2, 1) := by decide +kernel
theorem dX12_round_36 : decode cX12_round 36 = .ok (.ifCond .ne 12, 3) := by decide +kernel
theorem dX12_round_39 : decode cX12_round 39 = .ok (.aload_n 0, 1) := by decide +kernel
theorem dX12_round_40 : decode cX12_round 40 = .ok (.getfield 89, 3) := by decide +kernel
theorem dX12_round_43 : decode cX12_round 43 = .ok (.iload_n 1, 1) := by decide +kernel
theorem dX12_round_44 : decode cX12_round 44 = .ok (.iaload, 1) := by decide +kernel
theorem dX12_round_45 : decode cX12_round 45 = .ok (.goto 23, 3) := by decide +kernel
theorem dX12_round_48 : decode cX12_round 48 = .ok (.iload_n 2, 1) := by decide +kernel
theorem dX12_round_49 : decode cX12_round 49 = .ok (.iconst 1, 1) := by decide +kernel
theorem dX12_round_50 : decode cX12_round 50 = .ok (.if_icmp .ne 12, 3) := by decide +kernel
theorem dX12_round_53 : decode cX12_round 53 = .ok (.aload_n 0, 1) := by decide +kernel
theorem dX12_round_54 : decode cX12_round 54 = .ok (.getfield 92, 3) := by decide +kernel
theorem dX12_round_57 : decode cX12_round 57 = .ok (.iload_n 1, 1) := by decide +kernel
theorem dX12_round_58 : decode cX12_round 58 = .ok (.iaload, 1) := by decide +kernel
theorem dX12_round_59 : decode cX12_round 59 = .ok (.goto 9, 3) := by decide +kernel
theorem dX12_round_62 : decode cX12_round 62 = .ok (.aload_n 0, 1) := by decide +kernel
theorem dX12_round_63 : decode cX12_round 63 = .ok (.getfield 95, 3) := by decide +kernel
theorem dX12_round_66 : decode cX12_round 66 = .ok (.iload_n 1, 1) := by decide +kernel
theorem dX12_round_67 : decode cX12_round 67 = .ok (.iaload, 1) := by decide +kernel
theorem dX12_round_68 : decode cX12_round 68 = .ok (.ireturn, 1) := by decide +kernel
theorem dX12_ending_0 : decode cX12_ending 0 = .ok (.aload_n 0, 1) := by decide +kernel
theorem dX12_ending_1 : decode cX12_ending 1 = .ok (.iconst 0, 1) := by decide +kernel
theorem dX12_ending_2 : decode cX12_ending 2 = .ok (.putfield 107, 3) := by decide +kernel
theorem dX12_ending_5 : decode cX12_ending 5 = .ok (.aload_n 0, 1) := by decide +kernel
theorem dX12_ending_6 : decode cX12_ending 6 = .ok (.iload_n 1, 1) := by decide +kernel
theorem dX12_ending_7 : decode cX12_ending 7 = .ok (.invokevirtual 298, 3) := by decide +kernel
theorem dX12_ending_10 : decode cX12_ending 10 = .ok (.ifCond .eq 10, 3) := by decide +kernel
theorem dX12_ending_13 : decode cX12_ending 13 = .ok (.aload_n 0, 1) := by decide +kernel
theorem dX12_ending_14 : decode cX12_ending 14 = .ok (.getfield 292, 3) := by decide +kernel
theorem dX12_ending_17 : decode cX12_ending 17 = .ok (.goto 4, 3) := by decide +kernel
theorem dX12_ending_20 : decode cX12_ending 20 = .ok (.iconst (-1), 1) := by decide +kernel
theorem dX12_ending_21 : decode cX12_ending 21 = .ok (.ireturn, 1) := by decide +kernel
theorem dX12_count_0 : decode cX12_count 0 = .ok (.aload_n 0, 1) := by decide +kernel
theorem dX12_count_1 : decode cX12_count 1 = .ok (.iconst 0, 1) := by decide +kernel
theorem dX12_count_2 : decode cX12_count 2 = .ok (.putfield 107, 3) := by decide +kernel
theorem dX12_count_5 : decode cX12_count 5 = .ok (.iload_n 1, 1) := by decide +kernel
theorem dX12_count_6 : decode cX12_count 6 = .ok (.tableswitch 132 0 7 #[46, 51, 56, 77, 112, 117, 122, 127], 46) := by decide +kernel
theorem dX12_count_52 : decode cX12_count 52 = .ok (.aload_n 0, 1) := by decide +kernel
theorem dX12_count_53 : decode cX12_count 53 = .ok (.getfield 13, 3) := by decide +kernel
theorem dX12_count_56 : decode cX12_count 56 = .ok (.ireturn, 1) := by decide +kernel
theorem dX12_count_57 : decode cX12_count 57 = .ok (.aload_n 0, 1) := by decide +kernel
theorem dX12_count_58 : decode cX12_count 58 = .ok (.getfield 17, 3) := by decide +kernel
theorem dX12_count_61 : decode cX12_count 61 = .ok (.ireturn, 1) := by decide +kernel
theorem dX12_count_62 : decode cX12_count 62 = .ok (.aload_n 0, 1) := by decide +kernel
theorem dX12_count_63 : decode cX12_count 63 = .ok (.getfield 17, 3) := by decide +kernel
theorem dX12_count_66 : decode cX12_count 66 = .ok (.ifCond .le 10, 3) := by decide +kernel
theorem dX12_count_69 : decode cX12_count 69 = .ok (.aload_n 0, 1) := by decide +kernel
theorem dX12_count_70 : decode cX12_count 70 = .ok (.getfield 13, 3) := by decide +kernel
theorem dX12_count_73 : decode cX12_count 73 = .ok (.goto 9, 3) := by decide +kernel
theorem dX12_count_76 : decode cX12_count 76 = .ok (.aload_n 0, 1) := by decide +kernel
theorem dX12_count_77 : decode cX12_count 77 = .ok (.getfield 13, 3) := by decide +kernel
theorem dX12_count_80 : decode cX12_count 80 = .ok (.iconst 1, 1) := by decide +kernel
theorem dX12_count_81 : decode cX12_count 81 = .ok (.isub, 1) := by decide +kernel
theorem dX12_count_82 : decode cX12_count 82 = .ok (.ireturn, 1) := by decide +kernel
theorem dX12_count_83 : decode cX12_count 83 = .ok (.iconst 0, 1) := by decide +kernel
theorem dX12_count_84 : decode cX12_count 84 = .ok (.istore_n 2, 1) := by decide +kernel
theorem dX12_count_85 : decode cX12_count 85 = .ok (.iconst 0, 1) := by decide +kernel
theorem dX12_count_86 : decode cX12_count 86 = .ok (.istore_n 3, 1) := by decide +kernel
theorem dX12_count_87 : decode cX12_count 87 = .ok (.iload_n 3, 1) := by decide +kernel
theorem dX12_count_88 : decode cX12_count 88 = .ok (.bipush 10, 2) := by decide +kernel
theorem dX12_count_90 : decode cX12_count 90 = .ok (.if_icmp .ge 26, 3) := by decide +kernel
theorem dX12_count_93 : decode cX12_count 93 = .ok (.iload_n 2, 1) := by decide +kernel
theorem dX12_count_94 : decode cX12_count 94 = .ok (.aload_n 0, 1) := by decide +kernel
theorem dX12_count_95 : decode cX12_count 95 = .ok (.getfield 23, 3) := by decide +kernel
theorem dX12_count_98 : decode cX12_count 98 = .ok (.iload_n 3, 1) := by decide +kernel
theorem dX12_count_99 : decode cX12_count 99 = .ok (.baload, 1) := by decide +kernel
theorem dX12_count_100 : decode cX12_count 100 = .ok (.ifCond .eq 7, 3) := by decide +kernel
theorem dX12_count_103 : decode cX12_count 103 = .ok (.iconst 1, 1) := by decide +kernel
theorem dX12_count_104 : decode cX12_count 104 = .ok (.goto 4, 3) := by decide +kernel
theorem dX12_count_107 : decode cX12_count 107 = .ok (.iconst 0, 1) := by decide +kernel
theorem dX12_count_108 : decode cX12_count 108 = .ok (.iadd, 1) := by decide +kernel
theorem dX12_count_109 : decode cX12_count 109 = .ok (.istore_n 2, 1) := by decide +kernel
theorem dX12_count_110 : decode cX12_count 110 = .ok (.iinc 3 1, 3) := by decide +kernel
theorem dX12_count_113 : decode cX12_count 113 = .ok (.goto (-26), 3) := by decide +kernel
theorem dX12_count_116 : decode cX12_count 116 = .ok (.iload_n 2, 1) := by decide +kernel
theorem dX12_count_117 : decode cX12_count 117 = .ok (.ireturn, 1) := by decide +kernel
theorem dX12_count_118 : decode cX12_count 118 = .ok (.aload_n 0, 1) := by decide +kernel
theorem dX12_count_119 : decode cX12_count 119 = .ok (.getfield 110, 3) := by decide +kernel
theorem dX12_count_122 : decode cX12_count 122 = .ok (.ireturn, 1) := by decide +kernel
theorem dX12_count_123 : decode cX12_count 123 = .ok (.aload_n 0, 1) := by decide +kernel
theorem dX12_count_124 : decode cX12_count 124 = .ok (.getfield 59, 3) := by decide +kernel
theorem dX12_count_127 : decode cX12_count 127 = .ok (.ireturn, 1) := by decide +kernel
theorem dX12_count_128 : decode cX12_count 128 = .ok (.aload_n 0, 1) := by decide +kernel
theorem dX12_count_129 : decode cX12_count 129 = .ok (.getfield 62, 3) := by decide +kernel
theorem dX12_count_132 : decode cX12_count 132 = .ok (.ireturn, 1) := by decide +kernel
theorem dX12_count_133 : decode cX12_count 133 = .ok (.aload_n 0, 1) := by decide +kernel
theorem dX12_count_134 : decode cX12_count 134 = .ok (.getfield 53, 3) := by decide +kernel
theorem dX12_count_137 : decode cX12_count 137 = .ok (.ireturn, 1) := by decide +kernel
theorem dX12_count_138 : decode cX12_count 138 = .ok (.iconst (-1), 1) := by decide +kernel
theorem dX12_count_139 : decode cX12_count 139 = .ok (.ireturn, 1) := by decide +kernel
theorem dJ9_floorDiv_f86c9_0 : decode cJ9_floorDiv_f86c9 0 = .ok (.lload_n 0, 1) := by decide +kernel
theorem dJ9_floorDiv_f86c9_1 : decode cJ9_floorDiv_f86c9 1 = .ok (.lload_n 2, 1) := by decide +kernel
theorem dJ9_floorDiv_f86c9_2 : decode cJ9_floorDiv_f86c9 2 = .ok (.ldiv, 1) := by decide +kernel
theorem dJ9_floorDiv_f86c9_3 : decode cJ9_floorDiv_f86c9 3 = .ok (.lstore 4, 2) := by decide +kernel
theorem dJ9_floorDiv_f86c9_5 : decode cJ9_floorDiv_f86c9 5 = .ok (.lload_n 0, 1) := by decide +kernel
theorem dJ9_floorDiv_f86c9_6 : decode cJ9_floorDiv_f86c9 6 = .ok (.lload_n 2, 1) := by decide +kernel
theorem dJ9_floorDiv_f86c9_7 : decode cJ9_floorDiv_f86c9 7 = .ok (.lxor, 1) := by decide +kernel
theorem dJ9_floorDiv_f86c9_8 : decode cJ9_floorDiv_f86c9 8 = .ok (.lconst 0, 1) := by decide +kernel
theorem dJ9_floorDiv_f86c9_9 : decode cJ9_floorDiv_f86c9 9 = .ok (.lcmp, 1) := by decide +kernel
theorem dJ9_floorDiv_f86c9_10 : decode cJ9_floorDiv_f86c9 10 = .ok (.ifCond .ge 17, 3) := by decide +kernel
theorem dJ9_floorDiv_f86c9_13 : decode cJ9_floorDiv_f86c9 13 = .ok (.lload 4, 2) := by decide +kernel
theorem dJ9_floorDiv_f86c9_15 : decode cJ9_floorDiv_f86c9 15 = .ok (.lload_n 2, 1) := by decide +kernel
theorem dJ9_floorDiv_f86c9_16 : decode cJ9_floorDiv_f86c9 16 = .ok (.lmul, 1) := by decide +kernel
theorem dJ9_floorDiv_f86c9_17 : decode cJ9_floorDiv_f86c9 17 = .ok (.lload_n 0, 1) := by decide +kernel
theorem dJ9_floorDiv_f86c9_18 : decode cJ9_floorDiv_f86c9 18 = .ok (.lcmp, 1) := by decide +kernel
theorem dJ9_floorDiv_f86c9_19 : decode cJ9_floorDiv_f86c9 19 = .ok (.ifCond .eq 8, 3) := by decide +kernel
theorem dJ9_floorDiv_f86c9_22 : decode cJ9_floorDiv_f86c9 22 = .ok (.lload 4, 2) := by decide +kernel
theorem dJ9_floorDiv_f86c9_24 : decode cJ9_floorDiv_f86c9 24 = .ok (.lconst 1, 1) := by decide +kernel
theorem dJ9_floorDiv_f86c9_25 : decode cJ9_floorDiv_f86c9 25 = .ok (.lsub, 1) := by decide +kernel
theorem dJ9_floorDiv_f86c9_26 : decode cJ9_floorDiv_f86c9 26 = .ok (.lreturn, 1) := by decide +kernel
theorem dJ9_floorDiv_f86c9_27 : decode cJ9_floorDiv_f86c9 27 = .ok (.lload 4, 2) := by decide +kernel
theorem dJ9_floorDiv_f86c9_29 : decode cJ9_floorDiv_f86c9 29 = .ok (.lreturn, 1) := by decide +kernel
theorem dJ9_floorMod_f86c9_0 : decode cJ9_floorMod_f86c9 0 = .ok (.lload_n 0, 1) := by decide +kernel
theorem dJ9_floorMod_f86c9_1 : decode cJ9_floorMod_f86c9 1 = .ok (.lload_n 2, 1) := by decide +kernel
theorem dJ9_floorMod_f86c9_2 : decode cJ9_floorMod_f86c9 2 = .ok (.lrem, 1) := by decide +kernel
theorem dJ9_floorMod_f86c9_3 : decode cJ9_floorMod_f86c9 3 = .ok (.lstore 4, 2) := by decide +kernel
theorem dJ9_floorMod_f86c9_5 : decode cJ9_floorMod_f86c9 5 = .ok (.lload_n 0, 1) := by decide +kernel
theorem dJ9_floorMod_f86c9_6 : decode cJ9_floorMod_f86c9 6 = .ok (.lload_n 2, 1) := by decide +kernel
theorem dJ9_floorMod_f86c9_7 : decode cJ9_floorMod_f86c9 7 = .ok (.lxor, 1) := by decide +kernel
theorem dJ9_floorMod_f86c9_8 : decode cJ9_floorMod_f86c9 8 = .ok (.lconst 0, 1) := by decide +kernel
theorem dJ9_floorMod_f86c9_9 : decode cJ9_floorMod_f86c9 9 = .ok (.lcmp, 1) := by decide +kernel
theorem dJ9_floorMod_f86c9_10 : decode cJ9_floorMod_f86c9 10 = .ok (.ifCond .ge 15, 3) := by decide +kernel
theorem dJ9_floorMod_f86c9_13 : decode cJ9_floorMod_f86c9 13 = .ok (.lload 4, 2) := by decide +kernel
theorem dJ9_floorMod_f86c9_15 : decode cJ9_floorMod_f86c9 15 = .ok (.lconst 0, 1) := by decide +kernel
theorem dJ9_floorMod_f86c9_16 : decode cJ9_floorMod_f86c9 16 = .ok (.lcmp, 1) := by decide +kernel
theorem dJ9_floorMod_f86c9_17 : decode cJ9_floorMod_f86c9 17 = .ok (.ifCond .eq 8, 3) := by decide +kernel
theorem dJ9_floorMod_f86c9_20 : decode cJ9_floorMod_f86c9 20 = .ok (.lload 4, 2) := by decide +kernel
theorem dJ9_floorMod_f86c9_22 : decode cJ9_floorMod_f86c9 22 = .ok (.lload_n 2, 1) := by decide +kernel
theorem dJ9_floorMod_f86c9_23 : decode cJ9_floorMod_f86c9 23 = .ok (.ladd, 1) := by decide +kernel
theorem dJ9_floorMod_f86c9_24 : decode cJ9_floorMod_f86c9 24 = .ok (.lreturn, 1) := by decide +kernel
theorem dJ9_floorMod_f86c9_25 : decode cJ9_floorMod_f86c9 25 = .ok (.lload 4, 2) := by decide +kernel
theorem dJ9_floorMod_f86c9_27 : decode cJ9_floorMod_f86c9 27 = .ok (.lreturn, 1) := by decide +kernel
theorem dJ9_abs_067f4_0 : decode cJ9_abs_067f4 0 = .ok (.lload_n 0, 1) := by decide +kernel
theorem dJ9_abs_067f4_1 : decode cJ9_abs_067f4 1 = .ok (.lconst 0, 1) := by decide +kernel
theorem dJ9_abs_067f4_2 : decode cJ9_abs_067f4 2 = .ok (.lcmp, 1) := by decide +kernel
theorem dJ9_abs_067f4_3 : decode cJ9_abs_067f4 3 = .ok (.ifCond .ge 8, 3) := by decide +kernel
theorem dJ9_abs_067f4_6 : decode cJ9_abs_067f4 6 = .ok (.lload_n 0, 1) := by decide +kernel
theorem dJ9_abs_067f4_7 : decode cJ9_abs_067f4 7 = .ok (.lneg, 1) := by decide +kernel
theorem dJ9_abs_067f4_8 : decode cJ9_abs_067f4 8 = .ok (.goto 4, 3) := by decide +kernel
theorem dJ9_abs_067f4_11 : decode cJ9_abs_067f4 11 = .ok (.lload_n 0, 1) := by decide +kernel
theorem dJ9_abs_067f4_12 : decode cJ9_abs_067f4 12 = .ok (.lreturn, 1) := by decide +kernel
theorem dJ9_min_7cf53_0 : decode cJ9_min_7cf53 0 = .ok (.iload_n 0, 1) := by decide +kernel
theorem dJ9_min_7cf53_1 : decode cJ9_min_7cf53 1 = .ok (.iload_n 1, 1) := by decide +kernel
theorem dJ9_min_7cf53_2 : decode cJ9_min_7cf53 2 = .ok (.if_icmp .gt 7, 3) := by decide +kernel
theorem dJ9_min_7cf53_5 : decode cJ9_min_7cf53 5 = .ok (.iload_n 0, 1) := by decide +kernel
theorem dJ9_min_7cf53_6 : decode cJ9_min_7cf53 6 = .ok (.goto 4, 3) := by decide +kernel
theorem dJ9_min_7cf53_9 : decode cJ9_min_7cf53 9 = .ok (.iload_n 1, 1) := by decide +kernel
theorem dJ9_min_7cf53_10 : decode cJ9_min_7cf53 10 = .ok (.ireturn, 1) := by decide +kernel
theorem dL_part_0 : decode cL_part 0 = .ok (.aload_n 3, 1) := by decide +kernel
theorem dL_part_1 : decode cL_part 1 = .ok (.iconst 0, 1) := by decide +kernel
theorem dL_part_2 : decode cL_part 2 = .ok (.aload_n 0, 1) := by decide +kernel
theorem dL_part_3 : decode cL_part 3 = .ok (.iload_n 1, 1) := by decide +kernel
theorem dL_part_4 : decode cL_part 4 = .ok (.iload_n 2, 1) := by decide +kernel
theorem dL_part_5 : decode cL_part 5 = .ok (.invokevirtual 7, 3) := by decide +kernel
theorem dL_part_8 : decode cL_part 8 = .ok (.i2l, 1) := by decide +kernel
theorem dL_part_9 : decode cL_part 9 = .ok (.lastore, 1) := by decide +kernel
theorem dL_part_10 : decode cL_part 10 = .ok (.goto 7, 3) := by decide +kernel
theorem dL_part_13 : decode cL_part 13 = .ok (.astore 4, 2) := by decide +kernel
theorem dL_part_15 : decode cL_part 15 = .ok (.iconst 1, 1) := by decide +kernel
theorem dL_part_16 : decode cL_part 16 = .ok (.ireturn, 1) := by decide +kernel
theorem dL_part_17 : decode cL_part 17 = .ok (.iconst 0, 1) := by decide +kernel
theorem dL_part_18 : decode cL_part 18 = .ok (.ireturn, 1) := by decide +kernel
theorem dL_floor_0 : decode cL_floor 0 = .ok (.aload_n 2, 1) := by decide +kernel
theorem dL_floor_1 : decode cL_floor 1 = .ok (.iconst 0, 1) := by decide +kernel
theorem dL_floor_2 : decode cL_floor 2 = .ok (.aload_n 0, 1) := by decide +kernel
theorem dL_floor_3 : decode cL_floor 3 = .ok (.iload_n 1, 1) := by decide +kernel
theorem dL_floor_4 : decode cL_floor 4 = .ok (.invokevirtual 15, 3) := by decide +kernel
theorem dL_floor_7 : decode cL_floor 7 = .ok (.lastore, 1) := by decide +kernel
theorem dL_floor_8 : decode cL_floor 8 = .ok (.goto 6, 3) := by decide +kernel
theorem dL_floor_11 : decode cL_floor 11 = .ok (.astore_n 3, 1) := by decide +kernel
theorem dL_floor_12 : decode cL_floor 12 = .ok (.iconst 1, 1) := by decide +kernel
theorem dL_floor_13 : decode cL_floor 13 = .ok (.ireturn, 1) := by decide +kernel
theorem dL_floor_14 : decode cL_floor 14 = .ok (.iconst 0, 1) := by decide +kernel
theorem dL_floor_15 : decode cL_floor 15 = .ok (.ireturn, 1) := by decide +kernel
theorem dL_one_0 : decode cL_one 0 = .ok (.aload_n 2, 1) := by decide +kernel
theorem dL_one_1 : decode cL_one 1 = .ok (.iconst 0, 1) := by decide +kernel
theorem dL_one_2 : decode cL_one 2 = .ok (.aload_n 0, 1) := by decide +kernel
theorem dL_one_3 : decode cL_one 3 = .ok (.iload_n 1, 1) := by decide +kernel
theorem dL_one_4 : decode cL_one 4 = .ok (.invokevirtual 19, 3) := by decide +kernel
theorem dL_one_7 : decode cL_one 7 = .ok (.i2l, 1) := by decide +kernel
theorem dL_one_8 : decode cL_one 8 = .ok (.lastore, 1) := by decide +kernel
theorem dL_one_9 : decode cL_one 9 = .ok (.goto 6, 3) := by decide +kernel
theorem dL_one_12 : decode cL_one 12 = .ok (.astore_n 3, 1) := by decide +kernel
theorem dL_one_13 : decode cL_one 13 = .ok (.iconst 1, 1) := by decide +kernel
theorem dL_one_14 : decode cL_one 14 = .ok (.ireturn, 1) := by decide +kernel
theorem dL_one_15 : decode cL_one 15 = .ok (.iconst 0, 1) := by decide +kernel
theorem dL_one_16 : decode cL_one 16 = .ok (.ireturn, 1) := by decide +kernel
theorem dL_rows_0 : decode cL_rows 0 = .ok (.aload_n 2, 1) := by decide +kernel
theorem dL_rows_1 : decode cL_rows 1 = .ok (.iconst 0, 1) := by decide +kernel
theorem dL_rows_2 : decode cL_rows 2 = .ok (.aload_n 0, 1) := by decide +kernel
theorem dL_rows_3 : decode cL_rows 3 = .ok (.iload_n 1, 1) := by decide +kernel
theorem dL_rows_4 : decode cL_rows 4 = .ok (.invokevirtual 23, 3) := by decide +kernel
theorem dL_rows_7 : decode cL_rows 7 = .ok (.lastore, 1) := by decide +kernel
theorem dL_rows_8 : decode cL_rows 8 = .ok (.goto 6, 3) := by decide +kernel
theorem dL_rows_11 : decode cL_rows 11 = .ok (.astore_n 3, 1) := by decide +kernel
theorem dL_rows_12 : decode cL_rows 12 = .ok (.iconst 1, 1) := by decide +kernel
theorem dL_rows_13 : decode cL_rows 13 = .ok (.ireturn, 1) := by decide +kernel
theorem dL_rows_14 : decode cL_rows 14 = .ok (.iconst 0, 1) := by decide +kernel
theorem dL_rows_15 : decode cL_rows 15 = .ok (.ireturn, 1) := by decide +kernel
theorem dL_round_0 : decode cL_round 0 = .ok (.aload_n 3, 1) := by decide +kernel
theorem dL_round_1 : decode cL_round 1 = .ok (.iconst 0, 1) := by decide +kernel
theorem dL_round_2 : decode cL_round 2 = .ok (.aload_n 0, 1) := by decide +kernel
theorem dL_round_3 : decode cL_round 3 = .ok (.iload_n 1, 1) := by decide +kernel
theorem dL_round_4 : decode cL_round 4 = .ok (.iload_n 2, 1) := by decide +kernel
theorem dL_round_5 : decode cL_round 5 = .ok (.invokevirtual 26, 3) := by decide +kernel
theorem dL_round_8 : decode cL_round 8 = .ok (.i2l, 1) := by decide +kernel
theorem dL_round_9 : decode cL_round 9 = .ok (.lastore, 1) := by decide +kernel
theorem dL_round_10 : decode cL_round 10 = .ok (.goto 7, 3) := by decide +kernel
theorem dL_round_13 : decode cL_round 13 = .ok (.astore 4, 2) := by decide +kernel
theorem dL_round_15 : decode cL_round 15 = .ok (.iconst 1, 1) := by decide +kernel
theorem dL_round_16 : decode cL_round 16 = .ok (.ireturn, 1) := by decide +kernel
theorem dL_round_17 : decode cL_round 17 = .ok (.iconst 0, 1) := by decide +kernel
theorem dL_round_18 : decode cL_round 18 = .ok (.ireturn, 1) := by decide +kernel
theorem dL_law_0 : decode cL_law 0 = .ok (.new 8, 3) := by decide +kernel
theorem dL_law_3 : decode cL_law 3 = .ok (.dup, 1) := by decide +kernel
theorem dL_law_4 : decode cL_law 4 = .ok (.invokespecial 29, 3) := by decide +kernel
theorem dL_law_7 : decode cL_law 7 = .ok (.astore_n 1, 1) := by decide +kernel
theorem dL_law_8 : decode cL_law 8 = .ok (.new 30, 3) := by decide +kernel
theorem dL_law_11 : decode cL_law 11 = .ok (.dup, 1) := by decide +kernel
theorem dL_law_12 : decode cL_law 12 = .ok (.invokespecial 32, 3) := by decide +kernel
theorem dL_law_15 : decode cL_law 15 = .ok (.astore_n 2, 1) := by decide +kernel
theorem dL_law_16 : decode cL_law 16 = .ok (.iconst 1, 1) := by decide +kernel
theorem dL_law_17 : decode cL_law 17 = .ok (.newarray .long, 2) := by decide +kernel
theorem dL_law_19 : decode cL_law 19 = .ok (.astore_n 3, 1) := by decide +kernel
theorem dL_law_20 : decode cL_law 20 = .ok (.iconst 0, 1) := by decide +kernel
theorem dL_law_21 : decode cL_law 21 = .ok (.istore 4, 2) := by decide +kernel
theorem dL_law_23 : decode cL_law 23 = .ok (.iload 4, 2) := by decide +kernel
theorem dL_law_25 : decode cL_law 25 = .ok (.aload_n 0, 1) := by decide +kernel
theorem dL_law_26 : decode cL_law 26 = .ok (.arraylength, 1) := by decide +kernel
theorem dL_law_27 : decode cL_law 27 = .ok (.bipush 6, 2) := by decide +kernel
theorem dL_law_29 : decode cL_law 29 = .ok (.isub, 1) := by decide +kernel
theorem dL_law_30 : decode cL_law 30 = .ok (.if_icmp .gt 1195, 3) := by decide +kernel
theorem dL_law_33 : decode cL_law 33 = .ok (.aload_n 0, 1) := by decide +kernel
theorem dL_law_34 : decode cL_law 34 = .ok (.iload 4, 2) := by decide +kernel
theorem dL_law_36 : decode cL_law 36 = .ok (.iaload, 1) := by decide +kernel
theorem dL_law_37 : decode cL_law 37 = .ok (.bipush 31, 2) := by decide +kernel
theorem dL_law_39 : decode cL_law 39 = .ok (.iand, 1) := by decide +kernel
theorem dL_law_40 : decode cL_law 40 = .ok (.tableswitch 1179 0 25 #[120, 193, 218, 255, 316, 377, 445, 482, 537, 562, 587, 612, 661, 674, 730, 785, 822, 847, 936, 949, 986, 1011, 1036, 1061, 1129, 1154], 120) := by decide +kernel
theorem dL_law_160 : decode cL_law 160 = .ok (.aload_n 1, 1) := by decide +kernel
theorem dL_law_161 : decode cL_law 161 = .ok (.aload_n 0, 1) := by decide +kernel
theorem dL_law_162 : decode cL_law 162 = .ok (.iload 4, 2) := by decide +kernel
theorem dL_law_164 : decode cL_law 164 = .ok (.iconst 1, 1) := by decide +kernel
theorem dL_law_165 : decode cL_law 165 = .ok (.iadd, 1) := by decide +kernel
theorem dL_law_166 : decode cL_law 166 = .ok (.iaload, 1) := by decide +kernel
theorem dL_law_167 : decode cL_law 167 = .ok (.aload_n 0, 1) := by decide +kernel
theorem dL_law_168 : decode cL_law 168 = .ok (.iload 4, 2) := by decide +kernel
theorem dL_law_170 : decode cL_law 170 = .ok (.iconst 2, 1) := by decide +kernel
theorem dL_law_171 : decode cL_law 171 = .ok (.iadd, 1) := by decide +kernel
theorem dL_law_172 : decode cL_law 172 = .ok (.iaload, 1) := by decide +kernel
theorem dL_law_173 : decode cL_law 173 = .ok (.aload_n 0, 1) := by decide +kernel
theorem dL_law_174 : decode cL_law 174 = .ok (.iload 4, 2) := by decide +kernel
theorem dL_law_176 : decode cL_law 176 = .ok (.iconst 3, 1) := by decide +kernel
theorem dL_law_177 : decode cL_law 177 = .ok (.iadd, 1) := by decide +kernel
theorem dL_law_178 : decode cL_law 178 = .ok (.iaload, 1) := by decide +kernel
theorem dL_law_179 : decode cL_law 179 = .ok (.aload_n 0, 1) := by decide +kernel
theorem dL_law_180 : decode cL_law 180 = .ok (.iload 4, 2) := by decide +kernel
theorem dL_law_182 : decode cL_law 182 = .ok (.iconst 4, 1) := by decide +kernel
theorem dL_law_183 : decode cL_law 183 = .ok (.iadd, 1) := by decide +kernel
theorem dL_law_184 : decode cL_law 184 = .ok (.iaload, 1) := by decide +kernel
theorem dL_law_185 : decode cL_law 185 = .ok (.aload_n 0, 1) := by decide +kernel
theorem dL_law_186 : decode cL_law 186 = .ok (.iload 4, 2) := by decide +kernel
theorem dL_law_188 : decode cL_law 188 = .ok (.iconst 5, 1) := by decide +kernel
theorem dL_law_189 : decode cL_law 189 = .ok (.iadd, 1) := by decide +kernel
theorem dL_law_190 : decode cL_law 190 = .ok (.iaload, 1) := by decide +kernel
theorem dL_law_191 : decode cL_law 191 = .ok (.invokevirtual 33, 3) := by decide +kernel
theorem dL_law_194 : decode cL_law 194 = .ok (.aload_n 2, 1) := by decide +kernel
theorem dL_law_195 : decode cL_law 195 = .ok (.aload_n 0, 1) := by decide +kernel
theorem dL_law_196 : decode cL_law 196 = .ok (.iload 4, 2) := by decide +kernel
theorem dL_law_198 : decode cL_law 198 = .ok (.iconst 1, 1) := by decide +kernel
theorem dL_law_199 : decode cL_law 199 = .ok (.iadd, 1) := by decide +kernel
theorem dL_law_200 : decode cL_law 200 = .ok (.iaload, 1) := by decide +kernel
theorem dL_law_201 : decode cL_law 201 = .ok (.aload_n 0, 1) := by decide +kernel
theorem dL_law_202 : decode cL_law 202 = .ok (.iload 4, 2) := by decide +kernel
theorem dL_law_204 : decode cL_law 204 = .ok (.iconst 2, 1) := by decide +kernel
theorem dL_law_205 : decode cL_law 205 = .ok (.iadd, 1) := by decide +kernel
theorem dL_law_206 : decode cL_law 206 = .ok (.iaload, 1) := by decide +kernel
theorem dL_law_207 : decode cL_law 207 = .ok (.aload_n 0, 1) := by decide +kernel
theorem dL_law_208 : decode cL_law 208 = .ok (.iload 4, 2) := by decide +kernel
theorem dL_law_210 : decode cL_law 210 = .ok (.iconst 3, 1) := by decide +kernel
theorem dL_law_211 : decode cL_law 211 = .ok (.iadd, 1) := by decide +kernel
theorem dL_law_212 : decode cL_law 212 = .ok (.iaload, 1) := by decide +kernel
theorem dL_law_213 : decode cL_law 213 = .ok (.aload_n 0, 1) := by decide +kernel
theorem dL_law_214 : decode cL_law 214 = .ok (.iload 4, 2) := by decide +kernel
theorem dL_law_216 : decode cL_law 216 = .ok (.iconst 4, 1) := by decide +kernel
theorem dL_law_217 : decode cL_law 217 = .ok (.iadd, 1) := by decide +kernel
theorem dL_law_218 : decode cL_law 218 = .ok (.iaload, 1) := by decide +kernel
theorem dL_law_219 : decode cL_law 219 = .ok (.aload_n 0, 1) := by decide +kernel
theorem dL_law_220 : decode cL_law 220 = .ok (.iload 4, 2) := by decide +kernel
theorem dL_law_222 : decode cL_law 222 = .ok (.iconst 5, 1) := by decide +kernel
theorem dL_law_223 : decode cL_law 223 = .ok (.iadd, 1) := by decide +kernel
theorem dL_law_224 : decode cL_law 224 = .ok (.iaload, 1) := by decide +kernel
theorem dL_law_225 : decode cL_law 225 = .ok (.invokevirtual 37, 3) := by decide +kernel
theorem dL_law_228 : decode cL_law 228 = .ok (.if_icmp .eq 991, 3) := by decide +kernel
theorem dL_law_231 : decode cL_law 231 = .ok (.iconst 0, 1) := by decide +kernel
theorem dL_law_232 : decode cL_law 232 = .ok (.ireturn, 1) := by decide +kernel
theorem dL_law_233 : decode cL_law 233 = .ok (.aload_n 1, 1) := by decide +kernel
theorem dL_law_234 : decode cL_law 234 = .ok (.aload_n 0, 1) := by decide +kernel
theorem dL_law_235 : decode cL_law 235 = .ok (.iload 4, 2) := by decide +kernel
theorem dL_law_237 : decode cL_law 237 = .ok (.iconst 1, 1) := by decide +kernel
theorem dL_law_238 : decode cL_law 238 = .ok (.iadd, 1) := by decide +kernel
theorem dL_law_239 : decode cL_law 239 = .ok (.iaload, 1) := by decide +kernel
theorem dL_law_240 : decode cL_law 240 = .ok (.invokevirtual 38, 3) := by decide +kernel
theorem dL_law_243 : decode cL_law 243 = .ok (.aload_n 2, 1) := by decide +kernel
theorem dL_law_244 : decode cL_law 244 = .ok (.aload_n 0, 1) := by decide +kernel
theorem dL_law_245 : decode cL_law 245 = .ok (.iload 4, 2) := by decide +kernel
theorem dL_law_247 : decode cL_law 247 = .ok (.iconst 1, 1) := by decide +kernel
theorem dL_law_248 : decode cL_law 248 = .ok (.iadd, 1) := by decide +kernel
theorem dL_law_249 : decode cL_law 249 = .ok (.iaload, 1) := by decide +kernel
theorem dL_law_250 : decode cL_law 250 = .ok (.invokevirtual 42, 3) := by decide +kernel
theorem dL_law_253 : decode cL_law 253 = .ok (.if_icmp .eq 966, 3) := by decide +kernel
theorem dL_law_256 : decode cL_law 256 = .ok (.iconst 0, 1) := by decide +kernel
theorem dL_law_257 : decode cL_law 257 = .ok (.ireturn, 1) := by decide +kernel
theorem dL_law_258 : decode cL_law 258 = .ok (.aload_n 1, 1) := by decide +kernel
theorem dL_law_259 : decode cL_law 259 = .ok (.aload_n 0, 1) := by decide +kernel
theorem dL_law_260 : decode cL_law 260 = .ok (.iload 4, 2) := by decide +kernel
theorem dL_law_262 : decode cL_law 262 = .ok (.iconst 1, 1) := by decide +kernel
theorem dL_law_263 : decode cL_law 263 = .ok (.iadd, 1) := by decide +kernel
theorem dL_law_264 : decode cL_law 264 = .ok (.iaload, 1) := by decide +kernel
theorem dL_law_265 : decode cL_law 265 = .ok (.aload_n 0, 1) := by decide +kernel
theorem dL_law_266 : decode cL_law 266 = .ok (.iload 4, 2) := by decide +kernel
theorem dL_law_268 : decode cL_law 268 = .ok (.iconst 2, 1) := by decide +kernel
theorem dL_law_269 : decode cL_law 269 = .ok (.iadd, 1) := by decide +kernel
theorem dL_law_270 : decode cL_law 270 = .ok (.iaload, 1) := by decide +kernel
theorem dL_law_271 : decode cL_law 271 = .ok (.invokevirtual 43, 3) := by decide +kernel
theorem dL_law_274 : decode cL_law 274 = .ok (.aload_n 2, 1) := by decide +kernel
theorem dL_law_275 : decode cL_law 275 = .ok (.aload_n 0, 1) := by decide +kernel
theorem dL_law_276 : decode cL_law 276 = .ok (.iload 4, 2) := by decide +kernel
theorem dL_law_278 : decode cL_law 278 = .ok (.iconst 1, 1) := by decide +kernel
theorem dL_law_279 : decode cL_law 279 = .ok (.iadd, 1) := by decide +kernel
theorem dL_law_280 : decode cL_law 280 = .ok (.iaload, 1) := by decide +kernel
theorem dL_law_281 : decode cL_law 281 = .ok (.aload_n 0, 1) := by decide +kernel
theorem dL_law_282 : decode cL_law 282 = .ok (.iload 4, 2) := by decide +kernel
theorem dL_law_284 : decode cL_law 284 = .ok (.iconst 2, 1) := by decide +kernel
theorem dL_law_285 : decode cL_law 285 = .ok (.iadd, 1) := by decide +kernel
theorem dL_law_286 : decode cL_law 286 = .ok (.iaload, 1) := by decide +kernel
theorem dL_law_287 : decode cL_law 287 = .ok (.invokevirtual 47, 3) := by decide +kernel
theorem dL_law_290 : decode cL_law 290 = .ok (.if_icmp .eq 929, 3) := by decide +kernel
theorem dL_law_293 : decode cL_law 293 = .ok (.iconst 0, 1) := by decide +kernel
theorem dL_law_294 : decode cL_law 294 = .ok (.ireturn, 1) := by decide +kernel
theorem dL_law_295 : decode cL_law 295 = .ok (.aload_n 1, 1) := by decide +kernel
theorem dL_law_296 : decode cL_law 296 = .ok (.aload_n 0, 1) := by decide +kernel
theorem dL_law_297 : decode cL_law 297 = .ok (.iload 4, 2) := by decide +kernel
theorem dL_law_299 : decode cL_law 299 = .ok (.iconst 1, 1) := by decide +kernel
theorem dL_law_300 : decode cL_law 300 = .ok (.iadd, 1) := by decide +kernel
theorem dL_law_301 : decode cL_law 301 = .ok (.iaload, 1) := by decide +kernel
theorem dL_law_302 : decode cL_law 302 = .ok (.aload_n 0, 1) := by decide +kernel
theorem dL_law_303 : decode cL_law 303 = .ok (.iload 4, 2) := by decide +kernel
theorem dL_law_305 : decode cL_law 305 = .ok (.iconst 2, 1) := by decide +kernel
theorem dL_law_306 : decode cL_law 306 = .ok (.iadd, 1) := by decide +kernel
theorem dL_law_307 : decode cL_law 307 = .ok (.iaload, 1) := by decide +kernel
theorem dL_law_308 : decode cL_law 308 = .ok (.aload_n 0, 1) := by decide +kernel
theorem dL_law_309 : decode cL_law 309 = .ok (.iload 4, 2) := by decide +kernel
theorem dL_law_311 : decode cL_law 311 = .ok (.iconst 3, 1) := by decide +kernel
theorem dL_law_312 : decode cL_law 312 = .ok (.iadd, 1) := by decide +kernel
theorem dL_law_313 : decode cL_law 313 = .ok (.iaload, 1) := by decide +kernel
theorem dL_law_314 : decode cL_law 314 = .ok (.aload_n 0, 1) := by decide +kernel
theorem dL_law_315 : decode cL_law 315 = .ok (.iload 4, 2) := by decide +kernel
theorem dL_law_317 : decode cL_law 317 = .ok (.iconst 4, 1) := by decide +kernel
theorem dL_law_318 : decode cL_law 318 = .ok (.iadd, 1) := by decide +kernel
theorem dL_law_319 : decode cL_law 319 = .ok (.iaload, 1) := by decide +kernel
theorem dL_law_320 : decode cL_law 320 = .ok (.invokevirtual 48, 3) := by decide +kernel
theorem dL_law_323 : decode cL_law 323 = .ok (.aload_n 2, 1) := by decide +kernel
theorem dL_law_324 : decode cL_law 324 = .ok (.aload_n 0, 1) := by decide +kernel
theorem dL_law_325 : decode cL_law 325 = .ok (.iload 4, 2) := by decide +kernel
theorem dL_law_327 : decode cL_law 327 = .ok (.iconst 1, 1) := by decide +kernel
theorem dL_law_328 : decode cL_law 328 = .ok (.iadd, 1) := by decide +kernel
theorem dL_law_329 : decode cL_law 329 = .ok (.iaload, 1) := by decide +kernel
theorem dL_law_330 : decode cL_law 330 = .ok (.aload_n 0, 1) := by decide +kernel
theorem dL_law_331 : decode cL_law 331 = .ok (.iload 4, 2) := by decide +kernel
theorem dL_law_333 : decode cL_law 333 = .ok (.iconst 2, 1) := by decide +kernel
theorem dL_law_334 : decode cL_law 334 = .ok (.iadd, 1) := by decide +kernel
theorem dL_law_335 : decode cL_law 335 = .ok (.iaload, 1) := by decide +kernel
theorem dL_law_336 : decode cL_law 336 = .ok (.aload_n 0, 1) := by decide +kernel
theorem dL_law_337 : decode cL_law 337 = .ok (.iload 4, 2) := by decide +kernel
theorem dL_law_339 : decode cL_law 339 = .ok (.iconst 3, 1) := by decide +kernel
theorem dL_law_340 : decode cL_law 340 = .ok (.iadd, 1) := by decide +kernel
theorem dL_law_341 : decode cL_law 341 = .ok (.iaload, 1) := by decide +kernel
theorem dL_law_342 : decode cL_law 342 = .ok (.aload_n 0, 1) := by decide +kernel
theorem dL_law_343 : decode cL_law 343 = .ok (.iload 4, 2) := by decide +kernel
theorem dL_law_345 : decode cL_law 345 = .ok (.iconst 4, 1) := by decide +kernel
theorem dL_law_346 : decode cL_law 346 = .ok (.iadd, 1) := by decide +kernel
theorem dL_law_347 : decode cL_law 347 = .ok (.iaload, 1) := by decide +kernel
theorem dL_law_348 : decode cL_law 348 = .ok (.invokevirtual 52, 3) := by decide +kernel
theorem dL_law_351 : decode cL_law 351 = .ok (.if_icmp .eq 868, 3) := by decide +kernel
theorem dL_law_354 : decode cL_law 354 = .ok (.iconst 0, 1) := by decide +kernel
theorem dL_law_355 : decode cL_law 355 = .ok (.ireturn, 1) := by decide +kernel
theorem dL_law_356 : decode cL_law 356 = .ok (.aload_n 1, 1) := by decide +kernel
theorem dL_law_357 : decode cL_law 357 = .ok (.aload_n 0, 1) := by decide +kernel
theorem dL_law_358 : decode cL_law 358 = .ok (.iload 4, 2) := by decide +kernel
theorem dL_law_360 : decode cL_law 360 = .ok (.iconst 1, 1) := by decide +kernel
theorem dL_law_361 : decode cL_law 361 = .ok (.iadd, 1) := by decide +kernel
theorem dL_law_362 : decode cL_law 362 = .ok (.iaload, 1) := by decide +kernel
theorem dL_law_363 : decode cL_law 363 = .ok (.aload_n 0, 1) := by decide +kernel
theorem dL_law_364 : decode cL_law 364 = .ok (.iload 4, 2) := by decide +kernel
theorem dL_law_366 : decode cL_law 366 = .ok (.iconst 2, 1) := by decide +kernel
theorem dL_law_367 : decode cL_law 367 = .ok (.iadd, 1) := by decide +kernel
theorem dL_law_368 : decode cL_law 368 = .ok (.iaload, 1) := by decide +kernel
theorem dL_law_369 : decode cL_law 369 = .ok (.aload_n 0, 1) := by decide +kernel
theorem dL_law_370 : decode cL_law 370 = .ok (.iload 4, 2) := by decide +kernel
theorem dL_law_372 : decode cL_law 372 = .ok (.iconst 3, 1) := by decide +kernel
theorem dL_law_373 : decode cL_law 373 = .ok (.iadd, 1) := by decide +kernel
theorem dL_law_374 : decode cL_law 374 = .ok (.iaload, 1) := by decide +kernel
theorem dL_law_375 : decode cL_law 375 = .ok (.aload_n 0, 1) := by decide +kernel
theorem dL_law_376 : decode cL_law 376 = .ok (.iload 4, 2) := by decide +kernel
theorem dL_law_378 : decode cL_law 378 = .ok (.iconst 4, 1) := by decide +kernel
theorem dL_law_379 : decode cL_law 379 = .ok (.iadd, 1) := by decide +kernel
theorem dL_law_380 : decode cL_law 380 = .ok (.iaload, 1) := by decide +kernel
theorem dL_law_381 : decode cL_law 381 = .ok (.invokevirtual 53, 3) := by decide +kernel
theorem dL_law_384 : decode cL_law 384 = .ok (.aload_n 2, 1) := by decide +kernel
theorem dL_law_385 : decode cL_law 385 = .ok (.aload_n 0, 1) := by decide +kernel
theorem dL_law_386 : decode cL_law 386 = .ok (.iload 4, 2) := by decide +kernel
theorem dL_law_388 : decode cL_law 388 = .ok (.iconst 1, 1) := by decide +kernel
theorem dL_law_389 : decode cL_law 389 = .ok (.iadd, 1) := by decide +kernel
theorem dL_law_390 : decode cL_law 390 = .ok (.iaload, 1) := by decide +kernel
theorem dL_law_391 : decode cL_law 391 = .ok (.aload_n 0, 1) := by decide +kernel
theorem dL_law_392 : decode cL_law 392 = .ok (.iload 4, 2) := by decide +kernel
theorem dL_law_394 : decode cL_law 394 = .ok (.iconst 2, 1) := by decide +kernel
theorem dL_law_395 : decode cL_law 395 = .ok (.iadd, 1) := by decide +kernel
theorem dL_law_396 : decode cL_law 396 = .ok (.iaload, 1) := by decide +kernel
theorem dL_law_397 : decode cL_law 397 = .ok (.aload_n 0, 1) := by decide +kernel
theorem dL_law_398 : decode cL_law 398 = .ok (.iload 4, 2) := by decide +kernel
theorem dL_law_400 : decode cL_law 400 = .ok (.iconst 3, 1) := by decide +kernel
theorem dL_law_401 : decode cL_law 401 = .ok (.iadd, 1) := by decide +kernel
theorem dL_law_402 : decode cL_law 402 = .ok (.iaload, 1) := by decide +kernel
theorem dL_law_403 : decode cL_law 403 = .ok (.aload_n 0, 1) := by decide +kernel
theorem dL_law_404 : decode cL_law 404 = .ok (.iload 4, 2) := by decide +kernel
theorem dL_law_406 : decode cL_law 406 = .ok (.iconst 4, 1) := by decide +kernel
theorem dL_law_407 : decode cL_law 407 = .ok (.iadd, 1) := by decide +kernel
theorem dL_law_408 : decode cL_law 408 = .ok (.iaload, 1) := by decide +kernel
theorem dL_law_409 : decode cL_law 409 = .ok (.invokevirtual 56, 3) := by decide +kernel
theorem dL_law_412 : decode cL_law 412 = .ok (.if_icmp .eq 807, 3) := by decide +kernel
theorem dL_law_415 : decode cL_law 415 = .ok (.iconst 0, 1) := by decide +kernel
theorem dL_law_416 : decode cL_law 416 = .ok (.ireturn, 1) := by decide +kernel
theorem dL_law_417 : decode cL_law 417 = .ok (.aload_n 1, 1) := by decide +kernel
theorem dL_law_418 : decode cL_law 418 = .ok (.aload_n 0, 1) := by decide +kernel
theorem dL_law_419 : decode cL_law 419 = .ok (.iload 4, 2) := by decide +kernel
theorem dL_law_421 : decode cL_law 421 = .ok (.iconst 1, 1) := by decide +kernel
theorem dL_law_422 : decode cL_law 422 = .ok (.iadd, 1) := by decide +kernel
theorem dL_law_423 : decode cL_law 423 = .ok (.iaload, 1) := by decide +kernel
theorem dL_law_424 : decode cL_law 424 = .ok (.aload_n 0, 1) := by decide +kernel
theorem dL_law_425 : decode cL_law 425 = .ok (.iload 4, 2) := by decide +kernel
theorem dL_law_427 : decode cL_law 427 = .ok (.iconst 2, 1) := by decide +kernel
theorem dL_law_428 : decode cL_law 428 = .ok (.iadd, 1) := by decide +kernel
theorem dL_law_429 : decode cL_law 429 = .ok (.iaload, 1) := by decide +kernel
theorem dL_law_430 : decode cL_law 430 = .ok (.aload_n 3, 1) := by decide +kernel
theorem dL_law_431 : decode cL_law 431 = .ok (.invokestatic 57, 3) := by decide +kernel
theorem dL_law_434 : decode cL_law 434 = .ok (.istore 5, 2) := by decide +kernel
theorem dL_law_436 : decode cL_law 436 = .ok (.aload_n 2, 1) := by decide +kernel
theorem dL_law_437 : decode cL_law 437 = .ok (.aload_n 0, 1) := by decide +kernel
theorem dL_law_438 : decode cL_law 438 = .ok (.iload 4, 2) := by decide +kernel
theorem dL_law_440 : decode cL_law 440 = .ok (.iconst 1, 1) := by decide +kernel
theorem dL_law_441 : decode cL_law 441 = .ok (.iadd, 1) := by decide +kernel
theorem dL_law_442 : decode cL_law 442 = .ok (.iaload, 1) := by decide +kernel
theorem dL_law_443 : decode cL_law 443 = .ok (.aload_n 0, 1) := by decide +kernel
theorem dL_law_444 : decode cL_law 444 = .ok (.iload 4, 2) := by decide +kernel
theorem dL_law_446 : decode cL_law 446 = .ok (.iconst 2, 1) := by decide +kernel
theorem dL_law_447 : decode cL_law 447 = .ok (.iadd, 1) := by decide +kernel
theorem dL_law_448 : decode cL_law 448 = .ok (.iaload, 1) := by decide +kernel
theorem dL_law_449 : decode cL_law 449 = .ok (.invokevirtual 62, 3) := by decide +kernel
theorem dL_law_452 : decode cL_law 452 = .ok (.istore 6, 2) := by decide +kernel
theorem dL_law_454 : decode cL_law 454 = .ok (.aload_n 2, 1) := by decide +kernel
theorem dL_law_455 : decode cL_law 455 = .ok (.invokevirtual 63, 3) := by decide +kernel
theorem dL_law_458 : decode cL_law 458 = .ok (.iload 5, 2) := by decide +kernel
theorem dL_law_460 : decode cL_law 460 = .ok (.if_icmp .eq 5, 3) := by decide +kernel
theorem dL_law_463 : decode cL_law 463 = .ok (.iconst 0, 1) := by decide +kernel
theorem dL_law_464 : decode cL_law 464 = .ok (.ireturn, 1) := by decide +kernel
theorem dL_law_465 : decode cL_law 465 = .ok (.iload 5, 2) := by decide +kernel
theorem dL_law_467 : decode cL_law 467 = .ok (.ifCond .ne 15, 3) := by decide +kernel
theorem dL_law_470 : decode cL_law 470 = .ok (.aload_n 3, 1) := by decide +kernel
theorem dL_law_471 : decode cL_law 471 = .ok (.iconst 0, 1) := by decide +kernel
theorem dL_law_472 : decode cL_law 472 = .ok (.laload, 1) := by decide +kernel
theorem dL_law_473 : decode cL_law 473 = .ok (.iload 6, 2) := by decide +kernel
theorem dL_law_475 : decode cL_law 475 = .ok (.i2l, 1) := by decide +kernel
theorem dL_law_476 : decode cL_law 476 = .ok (.lcmp, 1) := by decide +kernel
theorem dL_law_477 : decode cL_law 477 = .ok (.ifCond .eq 5, 3) := by decide +kernel
theorem dL_law_480 : decode cL_law 480 = .ok (.iconst 0, 1) := by decide +kernel
theorem dL_law_481 : decode cL_law 481 = .ok (.ireturn, 1) := by decide +kernel
theorem dL_law_482 : decode cL_law 482 = .ok (.goto 737, 3) := by decide +kernel
theorem dL_law_485 : decode cL_law 485 = .ok (.aload_n 1, 1) := by decide +kernel
theorem dL_law_486 : decode cL_law 486 = .ok (.aload_n 0, 1) := by decide +kernel
theorem dL_law_487 : decode cL_law 487 = .ok (.iload 4, 2) := by decide +kernel
theorem dL_law_489 : decode cL_law 489 = .ok (.iconst 1, 1) := by decide +kernel
theorem dL_law_490 : decode cL_law 490 = .ok (.iadd, 1) := by decide +kernel
theorem dL_law_491 : decode cL_law 491 = .ok (.iaload, 1) := by decide +kernel
theorem dL_law_492 : decode cL_law 492 = .ok (.aload_n 0, 1) := by decide +kernel
theorem dL_law_493 : decode cL_law 493 = .ok (.iload 4, 2) := by decide +kernel
theorem dL_law_495 : decode cL_law 495 = .ok (.iconst 2, 1) := by decide +kernel
theorem dL_law_496 : decode cL_law 496 = .ok (.iadd, 1) := by decide +kernel
theorem dL_law_497 : decode cL_law 497 = .ok (.iaload, 1) := by decide +kernel
theorem dL_law_498 : decode cL_law 498 = .ok (.invokevirtual 67, 3) := by decide +kernel
theorem dL_law_501 : decode cL_law 501 = .ok (.aload_n 2, 1) := by decide +kernel
theorem dL_law_502 : decode cL_law 502 = .ok (.aload_n 0, 1) := by decide +kernel
theorem dL_law_503 : decode cL_law 503 = .ok (.iload 4, 2) := by decide +kernel
theorem dL_law_505 : decode cL_law 505 = .ok (.iconst 1, 1) := by decide +kernel
theorem dL_law_506 : decode cL_law 506 = .ok (.iadd, 1) := by decide +kernel
theorem dL_law_507 : decode cL_law 507 = .ok (.iaload, 1) := by decide +kernel
theorem dL_law_508 : decode cL_law 508 = .ok (.aload_n 0, 1) := by decide +kernel
theorem dL_law_509 : decode cL_law 509 = .ok (.iload 4, 2) := by decide +kernel
theorem dL_law_511 : decode cL_law 511 = .ok (.iconst 2, 1) := by decide +kernel
theorem dL_law_512 : decode cL_law 512 = .ok (.iadd, 1) := by decide +kernel
theorem dL_law_513 : decode cL_law 513 = .ok (.iaload, 1) := by decide +kernel
theorem dL_law_514 : decode cL_law 514 = .ok (.invokevirtual 70, 3) := by decide +kernel
theorem dL_law_517 : decode cL_law 517 = .ok (.if_icmp .eq 702, 3) := by decide +kernel
theorem dL_law_520 : decode cL_law 520 = .ok (.iconst 0, 1) := by decide +kernel
theorem dL_law_521 : decode cL_law 521 = .ok (.ireturn, 1) := by decide +kernel
theorem dL_law_522 : decode cL_law 522 = .ok (.aload_n 1, 1) := by decide +kernel
theorem dL_law_523 : decode cL_law 523 = .ok (.aload_n 0, 1) := by decide +kernel
theorem dL_law_524 : decode cL_law 524 = .ok (.iload 4, 2) := by decide +kernel
theorem dL_law_526 : decode cL_law 526 = .ok (.iconst 1, 1) := by decide +kernel
theorem dL_law_527 : decode cL_law 527 = .ok (.iadd, 1) := by decide +kernel
theorem dL_law_528 : decode cL_law 528 = .ok (.iaload, 1) := by decide +kernel
theorem dL_law_529 : decode cL_law 529 = .ok (.aload_n 3, 1) := by decide +kernel
theorem dL_law_530 : decode cL_law 530 = .ok (.invokestatic 71, 3) := by decide +kernel
theorem dL_law_533 : decode cL_law 533 = .ok (.istore 5, 2) := by decide +kernel
theorem dL_law_535 : decode cL_law 535 = .ok (.aload_n 2, 1) := by decide +kernel
theorem dL_law_536 : decode cL_law 536 = .ok (.aload_n 0, 1) := by decide +kernel
theorem dL_law_537 : decode cL_law 537 = .ok (.iload 4, 2) := by decide +kernel
theorem dL_law_539 : decode cL_law 539 = .ok (.iconst 1, 1) := by decide +kernel
theorem dL_law_540 : decode cL_law 540 = .ok (.iadd, 1) := by decide +kernel
theorem dL_law_541 : decode cL_law 541 = .ok (.iaload, 1) := by decide +kernel
theorem dL_law_542 : decode cL_law 542 = .ok (.invokevirtual 74, 3) := by decide +kernel
theorem dL_law_545 : decode cL_law 545 = .ok (.lstore 6, 2) := by decide +kernel
theorem dL_law_547 : decode cL_law 547 = .ok (.aload_n 2, 1) := by decide +kernel
theorem dL_law_548 : decode cL_law 548 = .ok (.invokevirtual 63, 3) := by decide +kernel
theorem dL_law_551 : decode cL_law 551 = .ok (.iload 5, 2) := by decide +kernel
theorem dL_law_553 : decode cL_law 553 = .ok (.if_icmp .eq 5, 3) := by decide +kernel
theorem dL_law_556 : decode cL_law 556 = .ok (.iconst 0, 1) := by decide +kernel
theorem dL_law_557 : decode cL_law 557 = .ok (.ireturn, 1) := by decide +kernel
theorem dL_law_558 : decode cL_law 558 = .ok (.iload 5, 2) := by decide +kernel
theorem dL_law_560 : decode cL_law 560 = .ok (.ifCond .ne 14, 3) := by decide +kernel
theorem dL_law_563 : decode cL_law 563 = .ok (.aload_n 3, 1) := by decide +kernel
theorem dL_law_564 : decode cL_law 564 = .ok (.iconst 0, 1) := by decide +kernel
theorem dL_law_565 : decode cL_law 565 = .ok (.laload, 1) := by decide +kernel
theorem dL_law_566 : decode cL_law 566 = .ok (.lload 6, 2) := by decide +kernel
theorem dL_law_568 : decode cL_law 568 = .ok (.lcmp, 1) := by decide +kernel
theorem dL_law_569 : decode cL_law 569 = .ok (.ifCond .eq 5, 3) := by decide +kernel
theorem dL_law_572 : decode cL_law 572 = .ok (.iconst 0, 1) := by decide +kernel
theorem dL_law_573 : decode cL_law 573 = .ok (.ireturn, 1) := by decide +kernel
theorem dL_law_574 : decode cL_law 574 = .ok (.goto 645, 3) := by decide +kernel
theorem dL_law_577 : decode cL_law 577 = .ok (.aload_n 1, 1) := by decide +kernel
theorem dL_law_578 : decode cL_law 578 = .ok (.aload_n 0, 1) := by decide +kernel
theorem dL_law_579 : decode cL_law 579 = .ok (.iload 4, 2) := by decide +kernel
theorem dL_law_581 : decode cL_law 581 = .ok (.iconst 1, 1) := by decide +kernel
theorem dL_law_582 : decode cL_law 582 = .ok (.iadd, 1) := by decide +kernel
theorem dL_law_583 : decode cL_law 583 = .ok (.iaload, 1) := by decide +kernel
theorem dL_law_584 : decode cL_law 584 = .ok (.invokevirtual 75, 3) := by decide +kernel
theorem dL_law_587 : decode cL_law 587 = .ok (.aload_n 2, 1) := by decide +kernel
theorem dL_law_588 : decode cL_law 588 = .ok (.aload_n 0, 1) := by decide +kernel
theorem dL_law_589 : decode cL_law 589 = .ok (.iload 4, 2) := by decide +kernel
theorem dL_law_591 : decode cL_law 591 = .ok (.iconst 1, 1) := by decide +kernel
theorem dL_law_592 : decode cL_law 592 = .ok (.iadd, 1) := by decide +kernel
theorem dL_law_593 : decode cL_law 593 = .ok (.iaload, 1) := by decide +kernel
theorem dL_law_594 : decode cL_law 594 = .ok (.invokevirtual 78, 3) := by decide +kernel
theorem dL_law_597 : decode cL_law 597 = .ok (.if_icmp .eq 622, 3) := by decide +kernel
theorem dL_law_600 : decode cL_law 600 = .ok (.iconst 0, 1) := by decide +kernel
theorem dL_law_601 : decode cL_law 601 = .ok (.ireturn, 1) := by decide +kernel
theorem dL_law_602 : decode cL_law 602 = .ok (.aload_n 1, 1) := by decide +kernel
theorem dL_law_603 : decode cL_law 603 = .ok (.aload_n 0, 1) := by decide +kernel
theorem dL_law_604 : decode cL_law 604 = .ok (.iload 4, 2) := by decide +kernel
theorem dL_law_606 : decode cL_law 606 = .ok (.iconst 1, 1) := by decide +kernel
theorem dL_law_607 : decode cL_law 607 = .ok (.iadd, 1) := by decide +kernel
theorem dL_law_608 : decode cL_law 608 = .ok (.iaload, 1) := by decide +kernel
theorem dL_law_609 : decode cL_law 609 = .ok (.invokevirtual 79, 3) := by decide +kernel
theorem dL_law_612 : decode cL_law 612 = .ok (.aload_n 2, 1) := by decide +kernel
theorem dL_law_613 : decode cL_law 613 = .ok (.aload_n 0, 1) := by decide +kernel
theorem dL_law_614 : decode cL_law 614 = .ok (.iload 4, 2) := by decide +kernel
theorem dL_law_616 : decode cL_law 616 = .ok (.iconst 1, 1) := by decide +kernel
theorem dL_law_617 : decode cL_law 617 = .ok (.iadd, 1) := by decide +kernel
theorem dL_law_618 : decode cL_law 618 = .ok (.iaload, 1) := by decide +kernel
theorem dL_law_619 : decode cL_law 619 = .ok (.invokevirtual 82, 3) := by decide +kernel
theorem dL_law_622 : decode cL_law 622 = .ok (.if_icmp .eq 597, 3) := by decide +kernel
theorem dL_law_625 : decode cL_law 625 = .ok (.iconst 0, 1) := by decide +kernel
theorem dL_law_626 : decode cL_law 626 = .ok (.ireturn, 1) := by decide +kernel
theorem dL_law_627 : decode cL_law 627 = .ok (.aload_n 1, 1) := by decide +kernel
theorem dL_law_628 : decode cL_law 628 = .ok (.aload_n 0, 1) := by decide +kernel
theorem dL_law_629 : decode cL_law 629 = .ok (.iload 4, 2) := by decide +kernel
theorem dL_law_631 : decode cL_law 631 = .ok (.iconst 1, 1) := by decide +kernel
theorem dL_law_632 : decode cL_law 632 = .ok (.iadd, 1) := by decide +kernel
theorem dL_law_633 : decode cL_law 633 = .ok (.iaload, 1) := by decide +kernel
theorem dL_law_634 : decode cL_law 634 = .ok (.invokevirtual 83, 3) := by decide +kernel
theorem dL_law_637 : decode cL_law 637 = .ok (.aload_n 2, 1) := by decide +kernel
theorem dL_law_638 : decode cL_law 638 = .ok (.aload_n 0, 1) := by decide +kernel
theorem dL_law_639 : decode cL_law 639 = .ok (.iload 4, 2) := by decide +kernel
theorem dL_law_641 : decode cL_law 641 = .ok (.iconst 1, 1) := by decide +kernel
theorem dL_law_642 : decode cL_law 642 = .ok (.iadd, 1) := by decide +kernel
theorem dL_law_643 : decode cL_law 643 = .ok (.iaload, 1) := by decide +kernel
theorem dL_law_644 : decode cL_law 644 = .ok (.invokevirtual 86, 3) := by decide +kernel
theorem dL_law_647 : decode cL_law 647 = .ok (.if_icmp .eq 572, 3) := by decide +kernel
theorem dL_law_650 : decode cL_law 650 = .ok (.iconst 0, 1) := by decide +kernel
theorem dL_law_651 : decode cL_law 651 = .ok (.ireturn, 1) := by decide +kernel
theorem dL_law_652 : decode cL_law 652 = .ok (.aload_n 1, 1) := by decide +kernel
theorem dL_law_653 : decode cL_law 653 = .ok (.aload_n 0, 1) := by decide +kernel
theorem dL_law_654 : decode cL_law 654 = .ok (.iload 4, 2) := by decide +kernel
theorem dL_law_656 : decode cL_law 656 = .ok (.iconst 1, 1) := by decide +kernel
theorem dL_law_657 : decode cL_law 657 = .ok (.iadd, 1) := by decide +kernel
theorem dL_law_658 : decode cL_law 658 = .ok (.iaload, 1) := by decide +kernel
theorem dL_law_659 : decode cL_law 659 = .ok (.aload_n 0, 1) := by decide +kernel
theorem dL_law_660 : decode cL_law 660 = .ok (.iload 4, 2) := by decide +kernel
theorem dL_law_662 : decode cL_law 662 = .ok (.iconst 2, 1) := by decide +kernel
theorem dL_law_663 : decode cL_law 663 = .ok (.iadd, 1) := by decide +kernel
theorem dL_law_664 : decode cL_law 664 = .ok (.iaload, 1) := by decide +kernel
theorem dL_law_665 : decode cL_law 665 = .ok (.aload_n 0, 1) := by decide +kernel
theorem dL_law_666 : decode cL_law 666 = .ok (.iload 4, 2) := by decide +kernel
theorem dL_law_668 : decode cL_law 668 = .ok (.iconst 3, 1) := by decide +kernel
theorem dL_law_669 : decode cL_law 669 = .ok (.iadd, 1) := by decide +kernel
theorem dL_law_670 : decode cL_law 670 = .ok (.iaload, 1) := by decide +kernel
theorem dL_law_671 : decode cL_law 671 = .ok (.invokevirtual 87, 3) := by decide +kernel
theorem dL_law_674 : decode cL_law 674 = .ok (.aload_n 2, 1) := by decide +kernel
theorem dL_law_675 : decode cL_law 675 = .ok (.aload_n 0, 1) := by decide +kernel
theorem dL_law_676 : decode cL_law 676 = .ok (.iload 4, 2) := by decide +kernel
theorem dL_law_678 : decode cL_law 678 = .ok (.iconst 1, 1) := by decide +kernel
theorem dL_law_679 : decode cL_law 679 = .ok (.iadd, 1) := by decide +kernel
theorem dL_law_680 : decode cL_law 680 = .ok (.iaload, 1) := by decide +kernel
theorem dL_law_681 : decode cL_law 681 = .ok (.aload_n 0, 1) := by decide +kernel
theorem dL_law_682 : decode cL_law 682 = .ok (.iload 4, 2) := by decide +kernel
theorem dL_law_684 : decode cL_law 684 = .ok (.iconst 2, 1) := by decide +kernel
theorem dL_law_685 : decode cL_law 685 = .ok (.iadd, 1) := by decide +kernel
theorem dL_law_686 : decode cL_law 686 = .ok (.iaload, 1) := by decide +kernel
theorem dL_law_687 : decode cL_law 687 = .ok (.aload_n 0, 1) := by decide +kernel
theorem dL_law_688 : decode cL_law 688 = .ok (.iload 4, 2) := by decide +kernel
theorem dL_law_690 : decode cL_law 690 = .ok (.iconst 3, 1) := by decide +kernel
theorem dL_law_691 : decode cL_law 691 = .ok (.iadd, 1) := by decide +kernel
theorem dL_law_692 : decode cL_law 692 = .ok (.iaload, 1) := by decide +kernel
theorem dL_law_693 : decode cL_law 693 = .ok (.invokevirtual 91, 3) := by decide +kernel
theorem dL_law_696 : decode cL_law 696 = .ok (.if_icmp .eq 523, 3) := by decide +kernel
theorem dL_law_699 : decode cL_law 699 = .ok (.iconst 0, 1) := by decide +kernel
theorem dL_law_700 : decode cL_law 700 = .ok (.ireturn, 1) := by decide +kernel
theorem dL_law_701 : decode cL_law 701 = .ok (.aload_n 1, 1) := by decide +kernel
theorem dL_law_702 : decode cL_law 702 = .ok (.invokevirtual 92, 3) := by decide +kernel
theorem dL_law_705 : decode cL_law 705 = .ok (.aload_n 2, 1) := by decide +kernel
theorem dL_law_706 : decode cL_law 706 = .ok (.invokevirtual 95, 3) := by decide +kernel
theorem dL_law_709 : decode cL_law 709 = .ok (.if_icmp .eq 510, 3) := by decide +kernel
theorem dL_law_712 : decode cL_law 712 = .ok (.iconst 0, 1) := by decide +kernel
theorem dL_law_713 : decode cL_law 713 = .ok (.ireturn, 1) := by decide +kernel
theorem dL_law_714 : decode cL_law 714 = .ok (.aload_n 1, 1) := by decide +kernel
theorem dL_law_715 : decode cL_law 715 = .ok (.aload_n 0, 1) := by decide +kernel
theorem dL_law_716 : decode cL_law 716 = .ok (.iload 4, 2) := by decide +kernel
theorem dL_law_718 : decode cL_law 718 = .ok (.iconst 1, 1) := by decide +kernel
theorem dL_law_719 : decode cL_law 719 = .ok (.iadd, 1) := by decide +kernel
theorem dL_law_720 : decode cL_law 720 = .ok (.iaload, 1) := by decide +kernel
theorem dL_law_721 : decode cL_law 721 = .ok (.aload_n 3, 1) := by decide +kernel
theorem dL_law_722 : decode cL_law 722 = .ok (.invokestatic 96, 3) := by decide +kernel
theorem dL_law_725 : decode cL_law 725 = .ok (.istore 5, 2) := by decide +kernel
theorem dL_law_727 : decode cL_law 727 = .ok (.aload_n 2, 1) := by decide +kernel
theorem dL_law_728 : decode cL_law 728 = .ok (.aload_n 0, 1) := by decide +kernel
theorem dL_law_729 : decode cL_law 729 = .ok (.iload 4, 2) := by decide +kernel
theorem dL_law_731 : decode cL_law 731 = .ok (.iconst 1, 1) := by decide +kernel
theorem dL_law_732 : decode cL_law 732 = .ok (.iadd, 1) := by decide +kernel
theorem dL_law_733 : decode cL_law 733 = .ok (.iaload, 1) := by decide +kernel
theorem dL_law_734 : decode cL_law 734 = .ok (.invokevirtual 98, 3) := by decide +kernel
theorem dL_law_737 : decode cL_law 737 = .ok (.istore 6, 2) := by decide +kernel
theorem dL_law_739 : decode cL_law 739 = .ok (.aload_n 2, 1) := by decide +kernel
theorem dL_law_740 : decode cL_law 740 = .ok (.invokevirtual 63, 3) := by decide +kernel
theorem dL_law_743 : decode cL_law 743 = .ok (.iload 5, 2) := by decide +kernel
theorem dL_law_745 : decode cL_law 745 = .ok (.if_icmp .eq 5, 3) := by decide +kernel
theorem dL_law_748 : decode cL_law 748 = .ok (.iconst 0, 1) := by decide +kernel
theorem dL_law_749 : decode cL_law 749 = .ok (.ireturn, 1) := by decide +kernel
theorem dL_law_750 : decode cL_law 750 = .ok (.iload 5, 2) := by decide +kernel
theorem dL_law_752 : decode cL_law 752 = .ok (.ifCond .ne 15, 3) := by decide +kernel
theorem dL_law_755 : decode cL_law 755 = .ok (.aload_n 3, 1) := by decide +kernel
theorem dL_law_756 : decode cL_law 756 = .ok (.iconst 0, 1) := by decide +kernel
theorem dL_law_757 : decode cL_law 757 = .ok (.laload, 1) := by decide +kernel
theorem dL_law_758 : decode cL_law 758 = .ok (.iload 6, 2) := by decide +kernel
theorem dL_law_760 : decode cL_law 760 = .ok (.i2l, 1) := by decide +kernel
theorem dL_law_761 : decode cL_law 761 = .ok (.lcmp, 1) := by decide +kernel
theorem dL_law_762 : decode cL_law 762 = .ok (.ifCond .eq 5, 3) := by decide +kernel
theorem dL_law_765 : decode cL_law 765 = .ok (.iconst 0, 1) := by decide +kernel
theorem dL_law_766 : decode cL_law 766 = .ok (.ireturn, 1) := by decide +kernel
theorem dL_law_767 : decode cL_law 767 = .ok (.goto 452, 3) := by decide +kernel
theorem dL_law_770 : decode cL_law 770 = .ok (.aload_n 1, 1) := by decide +kernel
theorem dL_law_771 : decode cL_law 771 = .ok (.aload_n 0, 1) := by decide +kernel
theorem dL_law_772 : decode cL_law 772 = .ok (.iload 4, 2) := by decide +kernel
theorem dL_law_774 : decode cL_law 774 = .ok (.iconst 1, 1) := by decide +kernel
theorem dL_law_775 : decode cL_law 775 = .ok (.iadd, 1) := by decide +kernel
theorem dL_law_776 : decode cL_law 776 = .ok (.iaload, 1) := by decide +kernel
theorem dL_law_777 : decode cL_law 777 = .ok (.aload_n 3, 1) := by decide +kernel
theorem dL_law_778 : decode cL_law 778 = .ok (.invokestatic 99, 3) := by decide +kernel
theorem dL_law_781 : decode cL_law 781 = .ok (.istore 5, 2) := by decide +kernel
theorem dL_law_783 : decode cL_law 783 = .ok (.aload_n 2, 1) := by decide +kernel
theorem dL_law_784 : decode cL_law 784 = .ok (.aload_n 0, 1) := by decide +kernel
theorem dL_law_785 : decode cL_law 785 = .ok (.iload 4, 2) := by decide +kernel
theorem dL_law_787 : decode cL_law 787 = .ok (.iconst 1, 1) := by decide +kernel
theorem dL_law_788 : decode cL_law 788 = .ok (.iadd, 1) := by decide +kernel
theorem dL_law_789 : decode cL_law 789 = .ok (.iaload, 1) := by decide +kernel
theorem dL_law_790 : decode cL_law 790 = .ok (.invokevirtual 101, 3) := by decide +kernel
theorem dL_law_793 : decode cL_law 793 = .ok (.lstore 6, 2) := by decide +kernel
theorem dL_law_795 : decode cL_law 795 = .ok (.aload_n 2, 1) := by decide +kernel
theorem dL_law_796 : decode cL_law 796 = .ok (.invokevirtual 63, 3) := by decide +kernel
theorem dL_law_799 : decode cL_law 799 = .ok (.iload 5, 2) := by decide +kernel
theorem dL_law_801 : decode cL_law 801 = .ok (.if_icmp .eq 5, 3) := by decide +kernel
theorem dL_law_804 : decode cL_law 804 = .ok (.iconst 0, 1) := by decide +kernel
theorem dL_law_805 : decode cL_law 805 = .ok (.ireturn, 1) := by decide +kernel
theorem dL_law_806 : decode cL_law 806 = .ok (.iload 5, 2) := by decide +kernel
theorem dL_law_808 : decode cL_law 808 = .ok (.ifCond .ne 14, 3) := by decide +kernel
theorem dL_law_811 : decode cL_law 811 = .ok (.aload_n 3, 1) := by decide +kernel
theorem dL_law_812 : decode cL_law 812 = .ok (.iconst 0, 1) := by decide +kernel
theorem dL_law_813 : decode cL_law 813 = .ok (.laload, 1) := by decide +kernel
theorem dL_law_814 : decode cL_law 814 = .ok (.lload 6, 2) := by decide +kernel
theorem dL_law_816 : decode cL_law 816 = .ok (.lcmp, 1) := by decide +kernel
theorem dL_law_817 : decode cL_law 817 = .ok (.ifCond .eq 5, 3) := by decide +kernel
theorem dL_law_820 : decode cL_law 820 = .ok (.iconst 0, 1) := by decide +kernel
theorem dL_law_821 : decode cL_law 821 = .ok (.ireturn, 1) := by decide +kernel
theorem dL_law_822 : decode cL_law 822 = .ok (.goto 397, 3) := by decide +kernel
theorem dL_law_825 : decode cL_law 825 = .ok (.aload_n 1, 1) := by decide +kernel
theorem dL_law_826 : decode cL_law 826 = .ok (.aload_n 0, 1) := by decide +kernel
theorem dL_law_827 : decode cL_law 827 = .ok (.iload 4, 2) := by decide +kernel
theorem dL_law_829 : decode cL_law 829 = .ok (.iconst 1, 1) := by decide +kernel
theorem dL_law_830 : decode cL_law 830 = .ok (.iadd, 1) := by decide +kernel
theorem dL_law_831 : decode cL_law 831 = .ok (.iaload, 1) := by decide +kernel
theorem dL_law_832 : decode cL_law 832 = .ok (.aload_n 0, 1) := by decide +kernel
theorem dL_law_833 : decode cL_law 833 = .ok (.iload 4, 2) := by decide +kernel
theorem dL_law_835 : decode cL_law 835 = .ok (.iconst 2, 1) := by decide +kernel
theorem dL_law_836 : decode cL_law 836 = .ok (.iadd, 1) := by decide +kernel
theorem dL_law_837 : decode cL_law 837 = .ok (.iaload, 1) := by decide +kernel
theorem dL_law_838 : decode cL_law 838 = .ok (.invokevirtual 102, 3) := by decide +kernel
theorem dL_law_841 : decode cL_law 841 = .ok (.aload_n 2, 1) := by decide +kernel
theorem dL_law_842 : decode cL_law 842 = .ok (.aload_n 0, 1) := by decide +kernel
theorem dL_law_843 : decode cL_law 843 = .ok (.iload 4, 2) := by decide +kernel
theorem dL_law_845 : decode cL_law 845 = .ok (.iconst 1, 1) := by decide +kernel
theorem dL_law_846 : decode cL_law 846 = .ok (.iadd, 1) := by decide +kernel
theorem dL_law_847 : decode cL_law 847 = .ok (.iaload, 1) := by decide +kernel
theorem dL_law_848 : decode cL_law 848 = .ok (.aload_n 0, 1) := by decide +kernel
theorem dL_law_849 : decode cL_law 849 = .ok (.iload 4, 2) := by decide +kernel
theorem dL_law_851 : decode cL_law 851 = .ok (.iconst 2, 1) := by decide +kernel
theorem dL_law_852 : decode cL_law 852 = .ok (.iadd, 1) := by decide +kernel
theorem dL_law_853 : decode cL_law 853 = .ok (.iaload, 1) := by decide +kernel
theorem dL_law_854 : decode cL_law 854 = .ok (.invokevirtual 105, 3) := by decide +kernel
theorem dL_law_857 : decode cL_law 857 = .ok (.if_icmp .eq 362, 3) := by decide +kernel
theorem dL_law_860 : decode cL_law 860 = .ok (.iconst 0, 1) := by decide +kernel
theorem dL_law_861 : decode cL_law 861 = .ok (.ireturn, 1) := by decide +kernel
theorem dL_law_862 : decode cL_law 862 = .ok (.aload_n 1, 1) := by decide +kernel
theorem dL_law_863 : decode cL_law 863 = .ok (.aload_n 0, 1) := by decide +kernel
theorem dL_law_864 : decode cL_law 864 = .ok (.iload 4, 2) := by decide +kernel
theorem dL_law_866 : decode cL_law 866 = .ok (.iconst 1, 1) := by decide +kernel
theorem dL_law_867 : decode cL_law 867 = .ok (.iadd, 1) := by decide +kernel
theorem dL_law_868 : decode cL_law 868 = .ok (.iaload, 1) := by decide +kernel
theorem dL_law_869 : decode cL_law 869 = .ok (.invokevirtual 106, 3) := by decide +kernel
theorem dL_law_872 : decode cL_law 872 = .ok (.aload_n 2, 1) := by decide +kernel
theorem dL_law_873 : decode cL_law 873 = .ok (.aload_n 0, 1) := by decide +kernel
theorem dL_law_874 : decode cL_law 874 = .ok (.iload 4, 2) := by decide +kernel
theorem dL_law_876 : decode cL_law 876 = .ok (.iconst 1, 1) := by decide +kernel
theorem dL_law_877 : decode cL_law 877 = .ok (.iadd, 1) := by decide +kernel
theorem dL_law_878 : decode cL_law 878 = .ok (.iaload, 1) := by decide +kernel
theorem dL_law_879 : decode cL_law 879 = .ok (.invokevirtual 109, 3) := by decide +kernel
theorem dL_law_882 : decode cL_law 882 = .ok (.if_icmp .eq 337, 3) := by decide +kernel
theorem dL_law_885 : decode cL_law 885 = .ok (.iconst 0, 1) := by decide +kernel
theorem dL_law_886 : decode cL_law 886 = .ok (.ireturn, 1) := by decide +kernel
theorem dL_law_887 : decode cL_law 887 = .ok (.aload_n 1, 1) := by decide +kernel
theorem dL_law_888 : decode cL_law 888 = .ok (.aload_n 0, 1) := by decide +kernel
theorem dL_law_889 : decode cL_law 889 = .ok (.iload 4, 2) := by decide +kernel
theorem dL_law_891 : decode cL_law 891 = .ok (.iconst 1, 1) := by decide +kernel
theorem dL_law_892 : decode cL_law 892 = .ok (.iadd, 1) := by decide +kernel
theorem dL_law_893 : decode cL_law 893 = .ok (.iaload, 1) := by decide +kernel
theorem dL_law_894 : decode cL_law 894 = .ok (.ifCond .eq 7, 3) := by decide +kernel
theorem dL_law_897 : decode cL_law 897 = .ok (.iconst 1, 1) := by decide +kernel
theorem dL_law_898 : decode cL_law 898 = .ok (.goto 4, 3) := by decide +kernel
theorem dL_law_901 : decode cL_law 901 = .ok (.iconst 0, 1) := by decide +kernel
theorem dL_law_902 : decode cL_law 902 = .ok (.aload_n 0, 1) := by decide +kernel
theorem dL_law_903 : decode cL_law 903 = .ok (.iload 4, 2) := by decide +kernel
theorem dL_law_905 : decode cL_law 905 = .ok (.iconst 2, 1) := by decide +kernel
theorem dL_law_906 : decode cL_law 906 = .ok (.iadd, 1) := by decide +kernel
theorem dL_law_907 : decode cL_law 907 = .ok (.iaload, 1) := by decide +kernel
theorem dL_law_908 : decode cL_law 908 = .ok (.aload_n 0, 1) := by decide +kernel
theorem dL_law_909 : decode cL_law 909 = .ok (.iload 4, 2) := by decide +kernel
theorem dL_law_911 : decode cL_law 911 = .ok (.iconst 3, 1) := by decide +kernel
theorem dL_law_912 : decode cL_law 912 = .ok (.iadd, 1) := by decide +kernel
theorem dL_law_913 : decode cL_law 913 = .ok (.iaload, 1) := by decide +kernel
theorem dL_law_914 : decode cL_law 914 = .ok (.aload_n 0, 1) := by decide +kernel
theorem dL_law_915 : decode cL_law 915 = .ok (.iload 4, 2) := by decide +kernel
theorem dL_law_917 : decode cL_law 917 = .ok (.iconst 4, 1) := by decide +kernel
theorem dL_law_918 : decode cL_law 918 = .ok (.iadd, 1) := by decide +kernel
theorem dL_law_919 : decode cL_law 919 = .ok (.iaload, 1) := by decide +kernel
theorem dL_law_920 : decode cL_law 920 = .ok (.aload_n 0, 1) := by decide +kernel
theorem dL_law_921 : decode cL_law 921 = .ok (.iload 4, 2) := by decide +kernel
theorem dL_law_923 : decode cL_law 923 = .ok (.iconst 5, 1) := by decide +kernel
theorem dL_law_924 : decode cL_law 924 = .ok (.iadd, 1) := by decide +kernel
theorem dL_law_925 : decode cL_law 925 = .ok (.iaload, 1) := by decide +kernel
theorem dL_law_926 : decode cL_law 926 = .ok (.invokevirtual 110, 3) := by decide +kernel
theorem dL_law_929 : decode cL_law 929 = .ok (.aload_n 2, 1) := by decide +kernel
theorem dL_law_930 : decode cL_law 930 = .ok (.aload_n 0, 1) := by decide +kernel
theorem dL_law_931 : decode cL_law 931 = .ok (.iload 4, 2) := by decide +kernel
theorem dL_law_933 : decode cL_law 933 = .ok (.iconst 1, 1) := by decide +kernel
theorem dL_law_934 : decode cL_law 934 = .ok (.iadd, 1) := by decide +kernel
theorem dL_law_935 : decode cL_law 935 = .ok (.iaload, 1) := by decide +kernel
theorem dL_law_936 : decode cL_law 936 = .ok (.ifCond .eq 7, 3) := by decide +kernel
theorem dL_law_939 : decode cL_law 939 = .ok (.iconst 1, 1) := by decide +kernel
theorem dL_law_940 : decode cL_law 940 = .ok (.goto 4, 3) := by decide +kernel
theorem dL_law_943 : decode cL_law 943 = .ok (.iconst 0, 1) := by decide +kernel
theorem dL_law_944 : decode cL_law 944 = .ok (.aload_n 0, 1) := by decide +kernel
theorem dL_law_945 : decode cL_law 945 = .ok (.iload 4, 2) := by decide +kernel
theorem dL_law_947 : decode cL_law 947 = .ok (.iconst 2, 1) := by decide +kernel
theorem dL_law_948 : decode cL_law 948 = .ok (.iadd, 1) := by decide +kernel
theorem dL_law_949 : decode cL_law 949 = .ok (.iaload, 1) := by decide +kernel
theorem dL_law_950 : decode cL_law 950 = .ok (.aload_n 0, 1) := by decide +kernel
theorem dL_law_951 : decode cL_law 951 = .ok (.iload 4, 2) := by decide +kernel
theorem dL_law_953 : decode cL_law 953 = .ok (.iconst 3, 1) := by decide +kernel
theorem dL_law_954 : decode cL_law 954 = .ok (.iadd, 1) := by decide +kernel
theorem dL_law_955 : decode cL_law 955 = .ok (.iaload, 1) := by decide +kernel
theorem dL_law_956 : decode cL_law 956 = .ok (.aload_n 0, 1) := by decide +kernel
theorem dL_law_957 : decode cL_law 957 = .ok (.iload 4, 2) := by decide +kernel
theorem dL_law_959 : decode cL_law 959 = .ok (.iconst 4, 1) := by decide +kernel
theorem dL_law_960 : decode cL_law 960 = .ok (.iadd, 1) := by decide +kernel
theorem dL_law_961 : decode cL_law 961 = .ok (.iaload, 1) := by decide +kernel
theorem dL_law_962 : decode cL_law 962 = .ok (.aload_n 0, 1) := by decide +kernel
theorem dL_law_963 : decode cL_law 963 = .ok (.iload 4, 2) := by decide +kernel
theorem dL_law_965 : decode cL_law 965 = .ok (.iconst 5, 1) := by decide +kernel
theorem dL_law_966 : decode cL_law 966 = .ok (.iadd, 1) := by decide +kernel
theorem dL_law_967 : decode cL_law 967 = .ok (.iaload, 1) := by decide +kernel
theorem dL_law_968 : decode cL_law 968 = .ok (.invokevirtual 114, 3) := by decide +kernel
theorem dL_law_971 : decode cL_law 971 = .ok (.if_icmp .eq 248, 3) := by decide +kernel
theorem dL_law_974 : decode cL_law 974 = .ok (.iconst 0, 1) := by decide +kernel
theorem dL_law_975 : decode cL_law 975 = .ok (.ireturn, 1) := by decide +kernel
theorem dL_law_976 : decode cL_law 976 = .ok (.aload_n 1, 1) := by decide +kernel
theorem dL_law_977 : decode cL_law 977 = .ok (.invokevirtual 115, 3) := by decide +kernel
theorem dL_law_980 : decode cL_law 980 = .ok (.aload_n 2, 1) := by decide +kernel
theorem dL_law_981 : decode cL_law 981 = .ok (.invokevirtual 119, 3) := by decide +kernel
theorem dL_law_984 : decode cL_law 984 = .ok (.if_icmp .eq 235, 3) := by decide +kernel
theorem dL_law_987 : decode cL_law 987 = .ok (.iconst 0, 1) := by decide +kernel
theorem dL_law_988 : decode cL_law 988 = .ok (.ireturn, 1) := by decide +kernel
theorem dL_law_989 : decode cL_law 989 = .ok (.aload_n 1, 1) := by decide +kernel
theorem dL_law_990 : decode cL_law 990 = .ok (.aload_n 0, 1) := by decide +kernel
theorem dL_law_991 : decode cL_law 991 = .ok (.iload 4, 2) := by decide +kernel
theorem dL_law_993 : decode cL_law 993 = .ok (.iconst 1, 1) := by decide +kernel
theorem dL_law_994 : decode cL_law 994 = .ok (.iadd, 1) := by decide +kernel
theorem dL_law_995 : decode cL_law 995 = .ok (.iaload, 1) := by decide +kernel
theorem dL_law_996 : decode cL_law 996 = .ok (.aload_n 0, 1) := by decide +kernel
theorem dL_law_997 : decode cL_law 997 = .ok (.iload 4, 2) := by decide +kernel
theorem dL_law_999 : decode cL_law 999 = .ok (.iconst 2, 1) := by decide +kernel
theorem dL_law_1000 : decode cL_law 1000 = .ok (.iadd, 1) := by decide +kernel
theorem dL_law_1001 : decode cL_law 1001 = .ok (.iaload, 1) := by decide +kernel
theorem dL_law_1002 : decode cL_law 1002 = .ok (.invokevirtual 120, 3) := by decide +kernel
theorem dL_law_1005 : decode cL_law 1005 = .ok (.aload_n 2, 1) := by decide +kernel
theorem dL_law_1006 : decode cL_law 1006 = .ok (.aload_n 0, 1) := by decide +kernel
theorem dL_law_1007 : decode cL_law 1007 = .ok (.iload 4, 2) := by decide +kernel
theorem dL_law_1009 : decode cL_law 1009 = .ok (.iconst 1, 1) := by decide +kernel
theorem dL_law_1010 : decode cL_law 1010 = .ok (.iadd, 1) := by decide +kernel
theorem dL_law_1011 : decode cL_law 1011 = .ok (.iaload, 1) := by decide +kernel
theorem dL_law_1012 : decode cL_law 1012 = .ok (.aload_n 0, 1) := by decide +kernel
theorem dL_law_1013 : decode cL_law 1013 = .ok (.iload 4, 2) := by decide +kernel
theorem dL_law_1015 : decode cL_law 1015 = .ok (.iconst 2, 1) := by decide +kernel
theorem dL_law_1016 : decode cL_law 1016 = .ok (.iadd, 1) := by decide +kernel
theorem dL_law_1017 : decode cL_law 1017 = .ok (.iaload, 1) := by decide +kernel
theorem dL_law_1018 : decode cL_law 1018 = .ok (.invokevirtual 123, 3) := by decide +kernel
theorem dL_law_1021 : decode cL_law 1021 = .ok (.if_icmp .eq 198, 3) := by decide +kernel
theorem dL_law_1024 : decode cL_law 1024 = .ok (.iconst 0, 1) := by decide +kernel
theorem dL_law_1025 : decode cL_law 1025 = .ok (.ireturn, 1) := by decide +kernel
theorem dL_law_1026 : decode cL_law 1026 = .ok (.aload_n 1, 1) := by decide +kernel
theorem dL_law_1027 : decode cL_law 1027 = .ok (.aload_n 0, 1) := by decide +kernel
theorem dL_law_1028 : decode cL_law 1028 = .ok (.iload 4, 2) := by decide +kernel
theorem dL_law_1030 : decode cL_law 1030 = .ok (.iconst 1, 1) := by decide +kernel
theorem dL_law_1031 : decode cL_law 1031 = .ok (.iadd, 1) := by decide +kernel
theorem dL_law_1032 : decode cL_law 1032 = .ok (.iaload, 1) := by decide +kernel
theorem dL_law_1033 : decode cL_law 1033 = .ok (.invokevirtual 124, 3) := by decide +kernel
theorem dL_law_1036 : decode cL_law 1036 = .ok (.aload_n 2, 1) := by decide +kernel
theorem dL_law_1037 : decode cL_law 1037 = .ok (.aload_n 0, 1) := by decide +kernel
theorem dL_law_1038 : decode cL_law 1038 = .ok (.iload 4, 2) := by decide +kernel
theorem dL_law_1040 : decode cL_law 1040 = .ok (.iconst 1, 1) := by decide +kernel
theorem dL_law_1041 : decode cL_law 1041 = .ok (.iadd, 1) := by decide +kernel
theorem dL_law_1042 : decode cL_law 1042 = .ok (.iaload, 1) := by decide +kernel
theorem dL_law_1043 : decode cL_law 1043 = .ok (.invokevirtual 127, 3) := by decide +kernel
theorem dL_law_1046 : decode cL_law 1046 = .ok (.if_icmp .eq 173, 3) := by decide +kernel
theorem dL_law_1049 : decode cL_law 1049 = .ok (.iconst 0, 1) := by decide +kernel
theorem dL_law_1050 : decode cL_law 1050 = .ok (.ireturn, 1) := by decide +kernel
theorem dL_law_1051 : decode cL_law 1051 = .ok (.aload_n 1, 1) := by decide +kernel
theorem dL_law_1052 : decode cL_law 1052 = .ok (.aload_n 0, 1) := by decide +kernel
theorem dL_law_1053 : decode cL_law 1053 = .ok (.iload 4, 2) := by decide +kernel
theorem dL_law_1055 : decode cL_law 1055 = .ok (.iconst 1, 1) := by decide +kernel
theorem dL_law_1056 : decode cL_law 1056 = .ok (.iadd, 1) := by decide +kernel
theorem dL_law_1057 : decode cL_law 1057 = .ok (.iaload, 1) := by decide +kernel
theorem dL_law_1058 : decode cL_law 1058 = .ok (.invokevirtual 128, 3) := by decide +kernel
theorem dL_law_1061 : decode cL_law 1061 = .ok (.aload_n 2, 1) := by decide +kernel
theorem dL_law_1062 : decode cL_law 1062 = .ok (.aload_n 0, 1) := by decide +kernel
theorem dL_law_1063 : decode cL_law 1063 = .ok (.iload 4, 2) := by decide +kernel
theorem dL_law_1065 : decode cL_law 1065 = .ok (.iconst 1, 1) := by decide +kernel
theorem dL_law_1066 : decode cL_law 1066 = .ok (.iadd, 1) := by decide +kernel
theorem dL_law_1067 : decode cL_law 1067 = .ok (.iaload, 1) := by decide +kernel
theorem dL_law_1068 : decode cL_law 1068 = .ok (.invokevirtual 131, 3) := by decide +kernel
theorem dL_law_1071 : decode cL_law 1071 = .ok (.if_icmp .eq 148, 3) := by decide +kernel
theorem dL_law_1074 : decode cL_law 1074 = .ok (.iconst 0, 1) := by decide +kernel
theorem dL_law_1075 : decode cL_law 1075 = .ok (.ireturn, 1) := by decide +kernel
theorem dL_law_1076 : decode cL_law 1076 = .ok (.aload_n 1, 1) := by decide +kernel
theorem dL_law_1077 : decode cL_law 1077 = .ok (.aload_n 0, 1) := by decide +kernel
theorem dL_law_1078 : decode cL_law 1078 = .ok (.iload 4, 2) := by decide +kernel
theorem dL_law_1080 : decode cL_law 1080 = .ok (.iconst 1, 1) := by decide +kernel
theorem dL_law_1081 : decode cL_law 1081 = .ok (.iadd, 1) := by decide +kernel
theorem dL_law_1082 : decode cL_law 1082 = .ok (.iaload, 1) := by decide +kernel
theorem dL_law_1083 : decode cL_law 1083 = .ok (.invokevirtual 132, 3) := by decide +kernel
theorem dL_law_1086 : decode cL_law 1086 = .ok (.aload_n 2, 1) := by decide +kernel
theorem dL_law_1087 : decode cL_law 1087 = .ok (.aload_n 0, 1) := by decide +kernel
theorem dL_law_1088 : decode cL_law 1088 = .ok (.iload 4, 2) := by decide +kernel
theorem dL_law_1090 : decode cL_law 1090 = .ok (.iconst 1, 1) := by decide +kernel
theorem dL_law_1091 : decode cL_law 1091 = .ok (.iadd, 1) := by decide +kernel
theorem dL_law_1092 : decode cL_law 1092 = .ok (.iaload, 1) := by decide +kernel
theorem dL_law_1093 : decode cL_law 1093 = .ok (.invokevirtual 135, 3) := by decide +kernel
theorem dL_law_1096 : decode cL_law 1096 = .ok (.if_icmp .eq 123, 3) := by decide +kernel
theorem dL_law_1099 : decode cL_law 1099 = .ok (.iconst 0, 1) := by decide +kernel
theorem dL_law_1100 : decode cL_law 1100 = .ok (.ireturn, 1) := by decide +kernel
theorem dL_law_1101 : decode cL_law 1101 = .ok (.aload_n 1, 1) := by decide +kernel
theorem dL_law_1102 : decode cL_law 1102 = .ok (.aload_n 0, 1) := by decide +kernel
theorem dL_law_1103 : decode cL_law 1103 = .ok (.iload 4, 2) := by decide +kernel
theorem dL_law_1105 : decode cL_law 1105 = .ok (.iconst 1, 1) := by decide +kernel
theorem dL_law_1106 : decode cL_law 1106 = .ok (.iadd, 1) := by decide +kernel
theorem dL_law_1107 : decode cL_law 1107 = .ok (.iaload, 1) := by decide +kernel
theorem dL_law_1108 : decode cL_law 1108 = .ok (.aload_n 0, 1) := by decide +kernel
theorem dL_law_1109 : decode cL_law 1109 = .ok (.iload 4, 2) := by decide +kernel
theorem dL_law_1111 : decode cL_law 1111 = .ok (.iconst 2, 1) := by decide +kernel
theorem dL_law_1112 : decode cL_law 1112 = .ok (.iadd, 1) := by decide +kernel
theorem dL_law_1113 : decode cL_law 1113 = .ok (.iaload, 1) := by decide +kernel
theorem dL_law_1114 : decode cL_law 1114 = .ok (.aload_n 3, 1) := by decide +kernel
theorem dL_law_1115 : decode cL_law 1115 = .ok (.invokestatic 136, 3) := by decide +kernel
theorem dL_law_1118 : decode cL_law 1118 = .ok (.istore 5, 2) := by decide +kernel
theorem dL_law_1120 : decode cL_law 1120 = .ok (.aload_n 2, 1) := by decide +kernel
theorem dL_law_1121 : decode cL_law 1121 = .ok (.aload_n 0, 1) := by decide +kernel
theorem dL_law_1122 : decode cL_law 1122 = .ok (.iload 4, 2) := by decide +kernel
theorem dL_law_1124 : decode cL_law 1124 = .ok (.iconst 1, 1) := by decide +kernel
theorem dL_law_1125 : decode cL_law 1125 = .ok (.iadd, 1) := by decide +kernel
theorem dL_law_1126 : decode cL_law 1126 = .ok (.iaload, 1) := by decide +kernel
theorem dL_law_1127 : decode cL_law 1127 = .ok (.aload_n 0, 1) := by decide +kernel
theorem dL_law_1128 : decode cL_law 1128 = .ok (.iload 4, 2) := by decide +kernel
theorem dL_law_1130 : decode cL_law 1130 = .ok (.iconst 2, 1) := by decide +kernel
theorem dL_law_1131 : decode cL_law 1131 = .ok (.iadd, 1) := by decide +kernel
theorem dL_law_1132 : decode cL_law 1132 = .ok (.iaload, 1) := by decide +kernel
theorem dL_law_1133 : decode cL_law 1133 = .ok (.invokevirtual 138, 3) := by decide +kernel
theorem dL_law_1136 : decode cL_law 1136 = .ok (.istore 6, 2) := by decide +kernel
theorem dL_law_1138 : decode cL_law 1138 = .ok (.aload_n 2, 1) := by decide +kernel
theorem dL_law_1139 : decode cL_law 1139 = .ok (.invokevirtual 63, 3) := by decide +kernel
theorem dL_law_1142 : decode cL_law 1142 = .ok (.iload 5, 2) := by decide +kernel
theorem dL_law_1144 : decode cL_law 1144 = .ok (.if_icmp .eq 5, 3) := by decide +kernel
theorem dL_law_1147 : decode cL_law 1147 = .ok (.iconst 0, 1) := by decide +kernel
theorem dL_law_1148 : decode cL_law 1148 = .ok (.ireturn, 1) := by decide +kernel
theorem dL_law_1149 : decode cL_law 1149 = .ok (.iload 5, 2) := by decide +kernel
theorem dL_law_1151 : decode cL_law 1151 = .ok (.ifCond .ne 15, 3) := by decide +kernel
theorem dL_law_1154 : decode cL_law 1154 = .ok (.aload_n 3, 1) := by decide +kernel
theorem dL_law_1155 : decode cL_law 1155 = .ok (.iconst 0, 1) := by decide +kernel
theorem dL_law_1156 : decode cL_law 1156 = .ok (.laload, 1) := by decide +kernel
theorem dL_law_1157 : decode cL_law 1157 = .ok (.iload 6, 2) := by decide +kernel
theorem dL_law_1159 : decode cL_law 1159 = .ok (.i2l, 1) := by decide +kernel
theorem dL_law_1160 : decode cL_law 1160 = .ok (.lcmp, 1) := by decide +kernel
theorem dL_law_1161 : decode cL_law 1161 = .ok (.ifCond .eq 5, 3) := by decide +kernel
theorem dL_law_1164 : decode cL_law 1164 = .ok (.iconst 0, 1) := by decide +kernel
theorem dL_law_1165 : decode cL_law 1165 = .ok (.ireturn, 1) := by decide +kernel
theorem dL_law_1166 : decode cL_law 1166 = .ok (.goto 53, 3) := by decide +kernel
theorem dL_law_1169 : decode cL_law 1169 = .ok (.aload_n 1, 1) := by decide +kernel
theorem dL_law_1170 : decode cL_law 1170 = .ok (.aload_n 0, 1) := by decide +kernel
theorem dL_law_1171 : decode cL_law 1171 = .ok (.iload 4, 2) := by decide +kernel
theorem dL_law_1173 : decode cL_law 1173 = .ok (.iconst 1, 1) := by decide +kernel
theorem dL_law_1174 : decode cL_law 1174 = .ok (.iadd, 1) := by decide +kernel
theorem dL_law_1175 : decode cL_law 1175 = .ok (.iaload, 1) := by decide +kernel
theorem dL_law_1176 : decode cL_law 1176 = .ok (.invokevirtual 139, 3) := by decide +kernel
theorem dL_law_1179 : decode cL_law 1179 = .ok (.aload_n 2, 1) := by decide +kernel
theorem dL_law_1180 : decode cL_law 1180 = .ok (.aload_n 0, 1) := by decide +kernel
theorem dL_law_1181 : decode cL_law 1181 = .ok (.iload 4, 2) := by decide +kernel
theorem dL_law_1183 : decode cL_law 1183 = .ok (.iconst 1, 1) := by decide +kernel
theorem dL_law_1184 : decode cL_law 1184 = .ok (.iadd, 1) := by decide +kernel
theorem dL_law_1185 : decode cL_law 1185 = .ok (.iaload, 1) := by decide +kernel
theorem dL_law_1186 : decode cL_law 1186 = .ok (.invokevirtual 142, 3) := by decide +kernel
theorem dL_law_1189 : decode cL_law 1189 = .ok (.if_icmp .eq 30, 3) := by decide +kernel
theorem dL_law_1192 : decode cL_law 1192 = .ok (.iconst 0, 1) := by decide +kernel
theorem dL_law_1193 : decode cL_law 1193 = .ok (.ireturn, 1) := by decide +kernel
theorem dL_law_1194 : decode cL_law 1194 = .ok (.aload_n 1, 1) := by decide +kernel
theorem dL_law_1195 : decode cL_law 1195 = .ok (.aload_n 0, 1) := by decide +kernel
theorem dL_law_1196 : decode cL_law 1196 = .ok (.iload 4, 2) := by decide +kernel
theorem dL_law_1198 : decode cL_law 1198 = .ok (.iconst 1, 1) := by decide +kernel
theorem dL_law_1199 : decode cL_law 1199 = .ok (.iadd, 1) := by decide +kernel
theorem dL_law_1200 : decode cL_law 1200 = .ok (.iaload, 1) := by decide +kernel
theorem dL_law_1201 : decode cL_law 1201 = .ok (.invokevirtual 143, 3) := by decide +kernel
theorem dL_law_1204 : decode cL_law 1204 = .ok (.aload_n 2, 1) := by decide +kernel
theorem dL_law_1205 : decode cL_law 1205 = .ok (.aload_n 0, 1) := by decide +kernel
theorem dL_law_1206 : decode cL_law 1206 = .ok (.iload 4, 2) := by decide +kernel
theorem dL_law_1208 : decode cL_law 1208 = .ok (.iconst 1, 1) := by decide +kernel
theorem dL_law_1209 : decode cL_law 1209 = .ok (.iadd, 1) := by decide +kernel
theorem dL_law_1210 : decode cL_law 1210 = .ok (.iaload, 1) := by decide +kernel
theorem dL_law_1211 : decode cL_law 1211 = .ok (.invokevirtual 146, 3) := by decide +kernel
theorem dL_law_1214 : decode cL_law 1214 = .ok (.if_icmp .eq 5, 3) := by decide +kernel
theorem dL_law_1217 : decode cL_law 1217 = .ok (.iconst 0, 1) := by decide +kernel
theorem dL_law_1218 : decode cL_law 1218 = .ok (.ireturn, 1) := by decide +kernel
theorem dL_law_1219 : decode cL_law 1219 = .ok (.iinc 4 6, 3) := by decide +kernel
theorem dL_law_1222 : decode cL_law 1222 = .ok (.goto (-1199), 3) := by decide +kernel
theorem dL_law_1225 : decode cL_law 1225 = .ok (.iconst 1, 1) := by decide +kernel
theorem dL_law_1226 : decode cL_law 1226 = .ok (.ireturn, 1) := by decide +kernel
