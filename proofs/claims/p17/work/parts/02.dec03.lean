theorem dX10_take_30 : decode cX10_take 30 = .ok (.iload_n 2, 1) := by decide +kernel
theorem dX10_take_31 : decode cX10_take 31 = .ok (.invokevirtual 263, 3) := by decide +kernel
theorem dX10_take_34 : decode cX10_take 34 = .ok (.ifCond .ne 12, 3) := by decide +kernel
theorem dX10_take_37 : decode cX10_take 37 = .ok (.aload_n 0, 1) := by decide +kernel
theorem dX10_take_38 : decode cX10_take 38 = .ok (.iload_n 1, 1) := by decide +kernel
theorem dX10_take_39 : decode cX10_take 39 = .ok (.iconst 5, 1) := by decide +kernel
theorem dX10_take_40 : decode cX10_take 40 = .ok (.invokevirtual 171, 3) := by decide +kernel
theorem dX10_take_43 : decode cX10_take 43 = .ok (.goto 89, 3) := by decide +kernel
theorem dX10_take_46 : decode cX10_take 46 = .ok (.aload_n 0, 1) := by decide +kernel
theorem dX10_take_47 : decode cX10_take 47 = .ok (.getfield 54, 3) := by decide +kernel
theorem dX10_take_50 : decode cX10_take 50 = .ok (.iload_n 2, 1) := by decide +kernel
theorem dX10_take_51 : decode cX10_take 51 = .ok (.iaload, 1) := by decide +kernel
theorem dX10_take_52 : decode cX10_take 52 = .ok (.aload_n 0, 1) := by decide +kernel
theorem dX10_take_53 : decode cX10_take 53 = .ok (.getfield 13, 3) := by decide +kernel
theorem dX10_take_56 : decode cX10_take 56 = .ok (.aload_n 0, 1) := by decide +kernel
theorem dX10_take_57 : decode cX10_take 57 = .ok (.getfield 48, 3) := by decide +kernel
theorem dX10_take_60 : decode cX10_take 60 = .ok (.iload_n 2, 1) := by decide +kernel
theorem dX10_take_61 : decode cX10_take 61 = .ok (.iaload, 1) := by decide +kernel
theorem dX10_take_62 : decode cX10_take 62 = .ok (.iaload, 1) := by decide +kernel
theorem dX10_take_63 : decode cX10_take 63 = .ok (.if_icmp .lt 12, 3) := by decide +kernel
theorem dX10_take_66 : decode cX10_take 66 = .ok (.aload_n 0, 1) := by decide +kernel
theorem dX10_take_67 : decode cX10_take 67 = .ok (.iload_n 1, 1) := by decide +kernel
theorem dX10_take_68 : decode cX10_take 68 = .ok (.iconst 3, 1) := by decide +kernel
theorem dX10_take_69 : decode cX10_take 69 = .ok (.invokevirtual 171, 3) := by decide +kernel
theorem dX10_take_72 : decode cX10_take 72 = .ok (.goto 60, 3) := by decide +kernel
theorem dX10_take_75 : decode cX10_take 75 = .ok (.aload_n 0, 1) := by decide +kernel
theorem dX10_take_76 : decode cX10_take 76 = .ok (.getfield 17, 3) := by decide +kernel
theorem dX10_take_79 : decode cX10_take 79 = .ok (.bipush 40, 2) := by decide +kernel
theorem dX10_take_81 : decode cX10_take 81 = .ok (.aload_n 0, 1) := by decide +kernel
theorem dX10_take_82 : decode cX10_take 82 = .ok (.getfield 48, 3) := by decide +kernel
theorem dX10_take_85 : decode cX10_take 85 = .ok (.iload_n 2, 1) := by decide +kernel
theorem dX10_take_86 : decode cX10_take 86 = .ok (.iaload, 1) := by decide +kernel
theorem dX10_take_87 : decode cX10_take 87 = .ok (.imul, 1) := by decide +kernel
theorem dX10_take_88 : decode cX10_take 88 = .ok (.aload_n 0, 1) := by decide +kernel
theorem dX10_take_89 : decode cX10_take 89 = .ok (.getfield 54, 3) := by decide +kernel
theorem dX10_take_92 : decode cX10_take 92 = .ok (.iload_n 2, 1) := by decide +kernel
theorem dX10_take_93 : decode cX10_take 93 = .ok (.iaload, 1) := by decide +kernel
theorem dX10_take_94 : decode cX10_take 94 = .ok (.iadd, 1) := by decide +kernel
theorem dX10_take_95 : decode cX10_take 95 = .ok (.baload, 1) := by decide +kernel
theorem dX10_take_96 : decode cX10_take 96 = .ok (.sipush 255, 3) := by decide +kernel
theorem dX10_take_99 : decode cX10_take 99 = .ok (.iand, 1) := by decide +kernel
theorem dX10_take_100 : decode cX10_take 100 = .ok (.istore_n 3, 1) := by decide +kernel
theorem dX10_take_101 : decode cX10_take 101 = .ok (.aload_n 0, 1) := by decide +kernel
theorem dX10_take_102 : decode cX10_take 102 = .ok (.getfield 54, 3) := by decide +kernel
theorem dX10_take_105 : decode cX10_take 105 = .ok (.iload_n 2, 1) := by decide +kernel
theorem dX10_take_106 : decode cX10_take 106 = .ok (.dup2, 1) := by decide +kernel
theorem dX10_take_107 : decode cX10_take 107 = .ok (.iaload, 1) := by decide +kernel
theorem dX10_take_108 : decode cX10_take 108 = .ok (.iconst 1, 1) := by decide +kernel
theorem dX10_take_109 : decode cX10_take 109 = .ok (.iadd, 1) := by decide +kernel
theorem dX10_take_110 : decode cX10_take 110 = .ok (.iastore, 1) := by decide +kernel
theorem dX10_take_111 : decode cX10_take 111 = .ok (.aload_n 0, 1) := by decide +kernel
theorem dX10_take_112 : decode cX10_take 112 = .ok (.getfield 75, 3) := by decide +kernel
theorem dX10_take_115 : decode cX10_take 115 = .ok (.iload_n 2, 1) := by decide +kernel
theorem dX10_take_116 : decode cX10_take 116 = .ok (.dup2, 1) := by decide +kernel
theorem dX10_take_117 : decode cX10_take 117 = .ok (.iaload, 1) := by decide +kernel
theorem dX10_take_118 : decode cX10_take 118 = .ok (.iconst 1, 1) := by decide +kernel
theorem dX10_take_119 : decode cX10_take 119 = .ok (.iadd, 1) := by decide +kernel
theorem dX10_take_120 : decode cX10_take 120 = .ok (.iastore, 1) := by decide +kernel
theorem dX10_take_121 : decode cX10_take 121 = .ok (.aload_n 0, 1) := by decide +kernel
theorem dX10_take_122 : decode cX10_take 122 = .ok (.iload_n 1, 1) := by decide +kernel
theorem dX10_take_123 : decode cX10_take 123 = .ok (.invokevirtual 175, 3) := by decide +kernel
theorem dX10_take_126 : decode cX10_take 126 = .ok (.aload_n 0, 1) := by decide +kernel
theorem dX10_take_127 : decode cX10_take 127 = .ok (.iconst 0, 1) := by decide +kernel
theorem dX10_take_128 : decode cX10_take 128 = .ok (.iload_n 3, 1) := by decide +kernel
theorem dX10_take_129 : decode cX10_take 129 = .ok (.invokevirtual 179, 3) := by decide +kernel
theorem dX10_take_132 : decode cX10_take 132 = .ok (.return_, 1) := by decide +kernel
theorem dX10_opened_0 : decode cX10_opened 0 = .ok (.iload_n 2, 1) := by decide +kernel
theorem dX10_opened_1 : decode cX10_opened 1 = .ok (.lookupswitch 144 #[(6, 35), (7, 44), (11, 123)], 35) := by decide +kernel
theorem dX10_opened_36 : decode cX10_opened 36 = .ok (.aload_n 0, 1) := by decide +kernel
theorem dX10_opened_37 : decode cX10_opened 37 = .ok (.iload_n 1, 1) := by decide +kernel
theorem dX10_opened_38 : decode cX10_opened 38 = .ok (.iload_n 3, 1) := by decide +kernel
theorem dX10_opened_39 : decode cX10_opened 39 = .ok (.invokevirtual 266, 3) := by decide +kernel
theorem dX10_opened_42 : decode cX10_opened 42 = .ok (.goto 183, 3) := by decide +kernel
theorem dX10_opened_45 : decode cX10_opened 45 = .ok (.aload_n 0, 1) := by decide +kernel
theorem dX10_opened_46 : decode cX10_opened 46 = .ok (.getfield 51, 3) := by decide +kernel
theorem dX10_opened_49 : decode cX10_opened 49 = .ok (.iload_n 3, 1) := by decide +kernel
theorem dX10_opened_50 : decode cX10_opened 50 = .ok (.iaload, 1) := by decide +kernel
theorem dX10_opened_51 : decode cX10_opened 51 = .ok (.ifCond .eq 12, 3) := by decide +kernel
theorem dX10_opened_54 : decode cX10_opened 54 = .ok (.aload_n 0, 1) := by decide +kernel
theorem dX10_opened_55 : decode cX10_opened 55 = .ok (.iload_n 1, 1) := by decide +kernel
theorem dX10_opened_56 : decode cX10_opened 56 = .ok (.iconst 4, 1) := by decide +kernel
theorem dX10_opened_57 : decode cX10_opened 57 = .ok (.invokevirtual 171, 3) := by decide +kernel
theorem dX10_opened_60 : decode cX10_opened 60 = .ok (.goto 165, 3) := by decide +kernel
theorem dX10_opened_63 : decode cX10_opened 63 = .ok (.aload_n 0, 1) := by decide +kernel
theorem dX10_opened_64 : decode cX10_opened 64 = .ok (.getfield 57, 3) := by decide +kernel
theorem dX10_opened_67 : decode cX10_opened 67 = .ok (.iload_n 3, 1) := by decide +kernel
theorem dX10_opened_68 : decode cX10_opened 68 = .ok (.iconst 1, 1) := by decide +kernel
theorem dX10_opened_69 : decode cX10_opened 69 = .ok (.iastore, 1) := by decide +kernel
theorem dX10_opened_70 : decode cX10_opened 70 = .ok (.aload_n 0, 1) := by decide +kernel
theorem dX10_opened_71 : decode cX10_opened 71 = .ok (.getfield 81, 3) := by decide +kernel
theorem dX10_opened_74 : decode cX10_opened 74 = .ok (.aload_n 0, 1) := by decide +kernel
theorem dX10_opened_75 : decode cX10_opened 75 = .ok (.getfield 269, 3) := by decide +kernel
theorem dX10_opened_78 : decode cX10_opened 78 = .ok (.iload_n 3, 1) := by decide +kernel
theorem dX10_opened_79 : decode cX10_opened 79 = .ok (.iastore, 1) := by decide +kernel
theorem dX10_opened_80 : decode cX10_opened 80 = .ok (.aload_n 0, 1) := by decide +kernel
theorem dX10_opened_81 : decode cX10_opened 81 = .ok (.getfield 84, 3) := by decide +kernel
theorem dX10_opened_84 : decode cX10_opened 84 = .ok (.aload_n 0, 1) := by decide +kernel
theorem dX10_opened_85 : decode cX10_opened 85 = .ok (.getfield 269, 3) := by decide +kernel
theorem dX10_opened_88 : decode cX10_opened 88 = .ok (.iconst 0, 1) := by decide +kernel
theorem dX10_opened_89 : decode cX10_opened 89 = .ok (.iastore, 1) := by decide +kernel
theorem dX10_opened_90 : decode cX10_opened 90 = .ok (.aload_n 0, 1) := by decide +kernel
theorem dX10_opened_91 : decode cX10_opened 91 = .ok (.getfield 90, 3) := by decide +kernel
theorem dX10_opened_94 : decode cX10_opened 94 = .ok (.aload_n 0, 1) := by decide +kernel
theorem dX10_opened_95 : decode cX10_opened 95 = .ok (.getfield 269, 3) := by decide +kernel
theorem dX10_opened_98 : decode cX10_opened 98 = .ok (.iconst 0, 1) := by decide +kernel
theorem dX10_opened_99 : decode cX10_opened 99 = .ok (.bastore, 1) := by decide +kernel
theorem dX10_opened_100 : decode cX10_opened 100 = .ok (.aload_n 0, 1) := by decide +kernel
theorem dX10_opened_101 : decode cX10_opened 101 = .ok (.dup, 1) := by decide +kernel
theorem dX10_opened_102 : decode cX10_opened 102 = .ok (.getfield 269, 3) := by decide +kernel
theorem dX10_opened_105 : decode cX10_opened 105 = .ok (.iconst 1, 1) := by decide +kernel
theorem dX10_opened_106 : decode cX10_opened 106 = .ok (.iadd, 1) := by decide +kernel
theorem dX10_opened_107 : decode cX10_opened 107 = .ok (.putfield 269, 3) := by decide +kernel
theorem dX10_opened_110 : decode cX10_opened 110 = .ok (.aload_n 0, 1) := by decide +kernel
theorem dX10_opened_111 : decode cX10_opened 111 = .ok (.iconst 2, 1) := by decide +kernel
theorem dX10_opened_112 : decode cX10_opened 112 = .ok (.aload_n 0, 1) := by decide +kernel
theorem dX10_opened_113 : decode cX10_opened 113 = .ok (.getfield 269, 3) := by decide +kernel
theorem dX10_opened_116 : decode cX10_opened 116 = .ok (.iconst 1, 1) := by decide +kernel
theorem dX10_opened_117 : decode cX10_opened 117 = .ok (.isub, 1) := by decide +kernel
theorem dX10_opened_118 : decode cX10_opened 118 = .ok (.invokevirtual 179, 3) := by decide +kernel
theorem dX10_opened_121 : decode cX10_opened 121 = .ok (.goto 104, 3) := by decide +kernel
theorem dX10_opened_124 : decode cX10_opened 124 = .ok (.aload_n 0, 1) := by decide +kernel
theorem dX10_opened_125 : decode cX10_opened 125 = .ok (.iconst 0, 1) := by decide +kernel
theorem dX10_opened_126 : decode cX10_opened 126 = .ok (.aload_n 0, 1) := by decide +kernel
theorem dX10_opened_127 : decode cX10_opened 127 = .ok (.getfield 54, 3) := by decide +kernel
theorem dX10_opened_130 : decode cX10_opened 130 = .ok (.iload_n 3, 1) := by decide +kernel
theorem dX10_opened_131 : decode cX10_opened 131 = .ok (.iaload, 1) := by decide +kernel
theorem dX10_opened_132 : decode cX10_opened 132 = .ok (.aload_n 0, 1) := by decide +kernel
theorem dX10_opened_133 : decode cX10_opened 133 = .ok (.getfield 66, 3) := by decide +kernel
theorem dX10_opened_136 : decode cX10_opened 136 = .ok (.iload_n 3, 1) := by decide +kernel
theorem dX10_opened_137 : decode cX10_opened 137 = .ok (.iaload, 1) := by decide +kernel
theorem dX10_opened_138 : decode cX10_opened 138 = .ok (.iadd, 1) := by decide +kernel
theorem dX10_opened_139 : decode cX10_opened 139 = .ok (.invokevirtual 179, 3) := by decide +kernel
theorem dX10_opened_142 : decode cX10_opened 142 = .ok (.goto 83, 3) := by decide +kernel
theorem dX10_opened_145 : decode cX10_opened 145 = .ok (.aload_n 0, 1) := by decide +kernel
theorem dX10_opened_146 : decode cX10_opened 146 = .ok (.iload_n 3, 1) := by decide +kernel
theorem dX10_opened_147 : decode cX10_opened 147 = .ok (.invokevirtual 263, 3) := by decide +kernel
theorem dX10_opened_150 : decode cX10_opened 150 = .ok (.ifCond .ne 12, 3) := by decide +kernel
theorem dX10_opened_153 : decode cX10_opened 153 = .ok (.aload_n 0, 1) := by decide +kernel
theorem dX10_opened_154 : decode cX10_opened 154 = .ok (.iload_n 1, 1) := by decide +kernel
theorem dX10_opened_155 : decode cX10_opened 155 = .ok (.iconst 5, 1) := by decide +kernel
theorem dX10_opened_156 : decode cX10_opened 156 = .ok (.invokevirtual 171, 3) := by decide +kernel
theorem dX10_opened_159 : decode cX10_opened 159 = .ok (.goto 66, 3) := by decide +kernel
theorem dX10_opened_162 : decode cX10_opened 162 = .ok (.iload_n 2, 1) := by decide +kernel
theorem dX10_opened_163 : decode cX10_opened 163 = .ok (.bipush 12, 2) := by decide +kernel
theorem dX10_opened_165 : decode cX10_opened 165 = .ok (.if_icmp .ne 22, 3) := by decide +kernel
theorem dX10_opened_168 : decode cX10_opened 168 = .ok (.aload_n 0, 1) := by decide +kernel
theorem dX10_opened_169 : decode cX10_opened 169 = .ok (.iconst 0, 1) := by decide +kernel
theorem dX10_opened_170 : decode cX10_opened 170 = .ok (.aload_n 0, 1) := by decide +kernel
theorem dX10_opened_171 : decode cX10_opened 171 = .ok (.getfield 13, 3) := by decide +kernel
theorem dX10_opened_174 : decode cX10_opened 174 = .ok (.aload_n 0, 1) := by decide +kernel
theorem dX10_opened_175 : decode cX10_opened 175 = .ok (.getfield 48, 3) := by decide +kernel
theorem dX10_opened_178 : decode cX10_opened 178 = .ok (.iload_n 3, 1) := by decide +kernel
theorem dX10_opened_179 : decode cX10_opened 179 = .ok (.iaload, 1) := by decide +kernel
theorem dX10_opened_180 : decode cX10_opened 180 = .ok (.iaload, 1) := by decide +kernel
theorem dX10_opened_181 : decode cX10_opened 181 = .ok (.invokevirtual 179, 3) := by decide +kernel
theorem dX10_opened_184 : decode cX10_opened 184 = .ok (.goto 41, 3) := by decide +kernel
theorem dX10_opened_187 : decode cX10_opened 187 = .ok (.aload_n 0, 1) := by decide +kernel
theorem dX10_opened_188 : decode cX10_opened 188 = .ok (.getfield 63, 3) := by decide +kernel
theorem dX10_opened_191 : decode cX10_opened 191 = .ok (.iload_n 3, 1) := by decide +kernel
theorem dX10_opened_192 : decode cX10_opened 192 = .ok (.iload_n 2, 1) := by decide +kernel
theorem dX10_opened_193 : decode cX10_opened 193 = .ok (.bipush 13, 2) := by decide +kernel
theorem dX10_opened_195 : decode cX10_opened 195 = .ok (.if_icmp .ne 12, 3) := by decide +kernel
theorem dX10_opened_198 : decode cX10_opened 198 = .ok (.aload_n 0, 1) := by decide +kernel
theorem dX10_opened_199 : decode cX10_opened 199 = .ok (.getfield 36, 3) := by decide +kernel
theorem dX10_opened_202 : decode cX10_opened 202 = .ok (.iload_n 1, 1) := by decide +kernel
theorem dX10_opened_203 : decode cX10_opened 203 = .ok (.iaload, 1) := by decide +kernel
theorem dX10_opened_204 : decode cX10_opened 204 = .ok (.goto 9, 3) := by decide +kernel
theorem dX10_opened_207 : decode cX10_opened 207 = .ok (.aload_n 0, 1) := by decide +kernel
theorem dX10_opened_208 : decode cX10_opened 208 = .ok (.getfield 63, 3) := by decide +kernel
theorem dX10_opened_211 : decode cX10_opened 211 = .ok (.iload_n 3, 1) := by decide +kernel
theorem dX10_opened_212 : decode cX10_opened 212 = .ok (.iaload, 1) := by decide +kernel
theorem dX10_opened_213 : decode cX10_opened 213 = .ok (.iastore, 1) := by decide +kernel
theorem dX10_opened_214 : decode cX10_opened 214 = .ok (.aload_n 0, 1) := by decide +kernel
theorem dX10_opened_215 : decode cX10_opened 215 = .ok (.iload_n 1, 1) := by decide +kernel
theorem dX10_opened_216 : decode cX10_opened 216 = .ok (.invokevirtual 175, 3) := by decide +kernel
theorem dX10_opened_219 : decode cX10_opened 219 = .ok (.aload_n 0, 1) := by decide +kernel
theorem dX10_opened_220 : decode cX10_opened 220 = .ok (.iconst 0, 1) := by decide +kernel
theorem dX10_opened_221 : decode cX10_opened 221 = .ok (.iconst 0, 1) := by decide +kernel
theorem dX10_opened_222 : decode cX10_opened 222 = .ok (.invokevirtual 179, 3) := by decide +kernel
theorem dX10_opened_225 : decode cX10_opened 225 = .ok (.return_, 1) := by decide +kernel
theorem dX10_list_0 : decode cX10_list 0 = .ok (.iload_n 3, 1) := by decide +kernel
theorem dX10_list_1 : decode cX10_list 1 = .ok (.ifCond .ge 10, 3) := by decide +kernel
theorem dX10_list_4 : decode cX10_list 4 = .ok (.aload_n 0, 1) := by decide +kernel
theorem dX10_list_5 : decode cX10_list 5 = .ok (.iload_n 1, 1) := by decide +kernel
theorem dX10_list_6 : decode cX10_list 6 = .ok (.iconst 4, 1) := by decide +kernel
theorem dX10_list_7 : decode cX10_list 7 = .ok (.invokevirtual 171, 3) := by decide +kernel
theorem dX10_list_10 : decode cX10_list 10 = .ok (.return_, 1) := by decide +kernel
theorem dX10_list_11 : decode cX10_list 11 = .ok (.aload_n 0, 1) := by decide +kernel
theorem dX10_list_12 : decode cX10_list 12 = .ok (.getfield 81, 3) := by decide +kernel
theorem dX10_list_15 : decode cX10_list 15 = .ok (.iload_n 2, 1) := by decide +kernel
theorem dX10_list_16 : decode cX10_list 16 = .ok (.iaload, 1) := by decide +kernel
theorem dX10_list_17 : decode cX10_list 17 = .ok (.istore 4, 2) := by decide +kernel
theorem dX10_list_19 : decode cX10_list 19 = .ok (.aload_n 0, 1) := by decide +kernel
theorem dX10_list_20 : decode cX10_list 20 = .ok (.getfield 84, 3) := by decide +kernel
theorem dX10_list_23 : decode cX10_list 23 = .ok (.iload_n 2, 1) := by decide +kernel
theorem dX10_list_24 : decode cX10_list 24 = .ok (.iaload, 1) := by decide +kernel
theorem dX10_list_25 : decode cX10_list 25 = .ok (.iload_n 3, 1) := by decide +kernel
theorem dX10_list_26 : decode cX10_list 26 = .ok (.if_icmp .gt 152, 3) := by decide +kernel
theorem dX10_list_29 : decode cX10_list 29 = .ok (.aload_n 0, 1) := by decide +kernel
theorem dX10_list_30 : decode cX10_list 30 = .ok (.getfield 90, 3) := by decide +kernel
theorem dX10_list_33 : decode cX10_list 33 = .ok (.iload_n 2, 1) := by decide +kernel
theorem dX10_list_34 : decode cX10_list 34 = .ok (.baload, 1) := by decide +kernel
theorem dX10_list_35 : decode cX10_list 35 = .ok (.ifCond .ne 143, 3) := by decide +kernel
theorem dX10_list_38 : decode cX10_list 38 = .ok (.aload_n 0, 1) := by decide +kernel
theorem dX10_list_39 : decode cX10_list 39 = .ok (.getfield 57, 3) := by decide +kernel
theorem dX10_list_42 : decode cX10_list 42 = .ok (.iload 4, 2) := by decide +kernel
theorem dX10_list_44 : decode cX10_list 44 = .ok (.iaload, 1) := by decide +kernel
theorem dX10_list_45 : decode cX10_list 45 = .ok (.iconst 2, 1) := by decide +kernel
theorem dX10_list_46 : decode cX10_list 46 = .ok (.if_icmp .ne 13, 3) := by decide +kernel
theorem dX10_list_49 : decode cX10_list 49 = .ok (.aload_n 0, 1) := by decide +kernel
theorem dX10_list_50 : decode cX10_list 50 = .ok (.getfield 90, 3) := by decide +kernel
theorem dX10_list_53 : decode cX10_list 53 = .ok (.iload_n 2, 1) := by decide +kernel
theorem dX10_list_54 : decode cX10_list 54 = .ok (.iconst 1, 1) := by decide +kernel
theorem dX10_list_55 : decode cX10_list 55 = .ok (.bastore, 1) := by decide +kernel
theorem dX10_list_56 : decode cX10_list 56 = .ok (.goto (-37), 3) := by decide +kernel
theorem dX10_list_59 : decode cX10_list 59 = .ok (.aload_n 0, 1) := by decide +kernel
theorem dX10_list_60 : decode cX10_list 60 = .ok (.getfield 54, 3) := by decide +kernel
theorem dX10_list_63 : decode cX10_list 63 = .ok (.iload 4, 2) := by decide +kernel
theorem dX10_list_65 : decode cX10_list 65 = .ok (.iaload, 1) := by decide +kernel
theorem dX10_list_66 : decode cX10_list 66 = .ok (.aload_n 0, 1) := by decide +kernel
theorem dX10_list_67 : decode cX10_list 67 = .ok (.getfield 13, 3) := by decide +kernel
theorem dX10_list_70 : decode cX10_list 70 = .ok (.aload_n 0, 1) := by decide +kernel
theorem dX10_list_71 : decode cX10_list 71 = .ok (.getfield 48, 3) := by decide +kernel
theorem dX10_list_74 : decode cX10_list 74 = .ok (.iload 4, 2) := by decide +kernel
theorem dX10_list_76 : decode cX10_list 76 = .ok (.iaload, 1) := by decide +kernel
theorem dX10_list_77 : decode cX10_list 77 = .ok (.iaload, 1) := by decide +kernel
theorem dX10_list_78 : decode cX10_list 78 = .ok (.if_icmp .lt 21, 3) := by decide +kernel
theorem dX10_list_81 : decode cX10_list 81 = .ok (.aload_n 0, 1) := by decide +kernel
theorem dX10_list_82 : decode cX10_list 82 = .ok (.getfield 90, 3) := by decide +kernel
theorem dX10_list_85 : decode cX10_list 85 = .ok (.iload_n 2, 1) := by decide +kernel
theorem dX10_list_86 : decode cX10_list 86 = .ok (.iconst 1, 1) := by decide +kernel
theorem dX10_list_87 : decode cX10_list 87 = .ok (.bastore, 1) := by decide +kernel
theorem dX10_list_88 : decode cX10_list 88 = .ok (.aload_n 0, 1) := by decide +kernel
theorem dX10_list_89 : decode cX10_list 89 = .ok (.getfield 57, 3) := by decide +kernel
theorem dX10_list_92 : decode cX10_list 92 = .ok (.iload 4, 2) := by decide +kernel
theorem dX10_list_94 : decode cX10_list 94 = .ok (.iconst 2, 1) := by decide +kernel
theorem dX10_list_95 : decode cX10_list 95 = .ok (.iastore, 1) := by decide +kernel
theorem dX10_list_96 : decode cX10_list 96 = .ok (.goto (-77), 3) := by decide +kernel
theorem dX10_list_99 : decode cX10_list 99 = .ok (.aload_n 0, 1) := by decide +kernel
theorem dX10_list_100 : decode cX10_list 100 = .ok (.getfield 87, 3) := by decide +kernel
theorem dX10_list_103 : decode cX10_list 103 = .ok (.bipush 40, 2) := by decide +kernel
theorem dX10_list_105 : decode cX10_list 105 = .ok (.iload_n 2, 1) := by decide +kernel
theorem dX10_list_106 : decode cX10_list 106 = .ok (.imul, 1) := by decide +kernel
theorem dX10_list_107 : decode cX10_list 107 = .ok (.aload_n 0, 1) := by decide +kernel
theorem dX10_list_108 : decode cX10_list 108 = .ok (.getfield 84, 3) := by decide +kernel
theorem dX10_list_111 : decode cX10_list 111 = .ok (.iload_n 2, 1) := by decide +kernel
theorem dX10_list_112 : decode cX10_list 112 = .ok (.iaload, 1) := by decide +kernel
theorem dX10_list_113 : decode cX10_list 113 = .ok (.iadd, 1) := by decide +kernel
theorem dX10_list_114 : decode cX10_list 114 = .ok (.aload_n 0, 1) := by decide +kernel
theorem dX10_list_115 : decode cX10_list 115 = .ok (.getfield 17, 3) := by decide +kernel
theorem dX10_list_118 : decode cX10_list 118 = .ok (.bipush 40, 2) := by decide +kernel
theorem dX10_list_120 : decode cX10_list 120 = .ok (.aload_n 0, 1) := by decide +kernel
theorem dX10_list_121 : decode cX10_list 121 = .ok (.getfield 48, 3) := by decide +kernel
theorem dX10_list_124 : decode cX10_list 124 = .ok (.iload 4, 2) := by decide +kernel
theorem dX10_list_126 : decode cX10_list 126 = .ok (.iaload, 1) := by decide +kernel
theorem dX10_list_127 : decode cX10_list 127 = .ok (.imul, 1) := by decide +kernel
theorem dX10_list_128 : decode cX10_list 128 = .ok (.aload_n 0, 1) := by decide +kernel
theorem dX10_list_129 : decode cX10_list 129 = .ok (.getfield 54, 3) := by decide +kernel
theorem dX10_list_132 : decode cX10_list 132 = .ok (.iload 4, 2) := by decide +kernel
theorem dX10_list_134 : decode cX10_list 134 = .ok (.iaload, 1) := by decide +kernel
theorem dX10_list_135 : decode cX10_list 135 = .ok (.iadd, 1) := by decide +kernel
theorem dX10_list_136 : decode cX10_list 136 = .ok (.baload, 1) := by decide +kernel
theorem dX10_list_137 : decode cX10_list 137 = .ok (.bastore, 1) := by decide +kernel
theorem dX10_list_138 : decode cX10_list 138 = .ok (.aload_n 0, 1) := by decide +kernel
theorem dX10_list_139 : decode cX10_list 139 = .ok (.getfield 84, 3) := by decide +kernel
theorem dX10_list_142 : decode cX10_list 142 = .ok (.iload_n 2, 1) := by decide +kernel
theorem dX10_list_143 : decode cX10_list 143 = .ok (.dup2, 1) := by decide +kernel
theorem dX10_list_144 : decode cX10_list 144 = .ok (.iaload, 1) := by decide +kernel
theorem dX10_list_145 : decode cX10_list 145 = .ok (.iconst 1, 1) := by decide +kernel
theorem dX10_list_146 : decode cX10_list 146 = .ok (.iadd, 1) := by decide +kernel
theorem dX10_list_147 : decode cX10_list 147 = .ok (.iastore, 1) := by decide +kernel
theorem dX10_list_148 : decode cX10_list 148 = .ok (.aload_n 0, 1) := by decide +kernel
theorem dX10_list_149 : decode cX10_list 149 = .ok (.getfield 54, 3) := by decide +kernel
theorem dX10_list_152 : decode cX10_list 152 = .ok (.iload 4, 2) := by decide +kernel
theorem dX10_list_154 : decode cX10_list 154 = .ok (.dup2, 1) := by decide +kernel
theorem dX10_list_155 : decode cX10_list 155 = .ok (.iaload, 1) := by decide +kernel
theorem dX10_list_156 : decode cX10_list 156 = .ok (.iconst 1, 1) := by decide +kernel
theorem dX10_list_157 : decode cX10_list 157 = .ok (.iadd, 1) := by decide +kernel
theorem dX10_list_158 : decode cX10_list 158 = .ok (.iastore, 1) := by decide +kernel
theorem dX10_list_159 : decode cX10_list 159 = .ok (.aload_n 0, 1) := by decide +kernel
theorem dX10_list_160 : decode cX10_list 160 = .ok (.getfield 75, 3) := by decide +kernel
theorem dX10_list_163 : decode cX10_list 163 = .ok (.iload 4, 2) := by decide +kernel
theorem dX10_list_165 : decode cX10_list 165 = .ok (.dup2, 1) := by decide +kernel
theorem dX10_list_166 : decode cX10_list 166 = .ok (.iaload, 1) := by decide +kernel
theorem dX10_list_167 : decode cX10_list 167 = .ok (.iconst 1, 1) := by decide +kernel
theorem dX10_list_168 : decode cX10_list 168 = .ok (.iadd, 1) := by decide +kernel
theorem dX10_list_169 : decode cX10_list 169 = .ok (.iastore, 1) := by decide +kernel
theorem dX10_list_170 : decode cX10_list 170 = .ok (.aload_n 0, 1) := by decide +kernel
theorem dX10_list_171 : decode cX10_list 171 = .ok (.iload_n 1, 1) := by decide +kernel
theorem dX10_list_172 : decode cX10_list 172 = .ok (.invokevirtual 175, 3) := by decide +kernel
theorem dX10_list_175 : decode cX10_list 175 = .ok (.goto (-156), 3) := by decide +kernel
theorem dX10_list_178 : decode cX10_list 178 = .ok (.aload_n 0, 1) := by decide +kernel
theorem dX10_list_179 : decode cX10_list 179 = .ok (.iconst 0, 1) := by decide +kernel
theorem dX10_list_180 : decode cX10_list 180 = .ok (.aload_n 0, 1) := by decide +kernel
theorem dX10_list_181 : decode cX10_list 181 = .ok (.getfield 30, 3) := by decide +kernel
theorem dX10_list_184 : decode cX10_list 184 = .ok (.iload_n 1, 1) := by decide +kernel
theorem dX10_list_185 : decode cX10_list 185 = .ok (.iaload, 1) := by decide +kernel
theorem dX10_list_186 : decode cX10_list 186 = .ok (.bipush 9, 2) := by decide +kernel
theorem dX10_list_188 : decode cX10_list 188 = .ok (.if_icmp .ne 12, 3) := by decide +kernel
theorem dX10_list_191 : decode cX10_list 191 = .ok (.aload_n 0, 1) := by decide +kernel
theorem dX10_list_192 : decode cX10_list 192 = .ok (.getfield 84, 3) := by decide +kernel
theorem dX10_list_195 : decode cX10_list 195 = .ok (.iload_n 2, 1) := by decide +kernel
theorem dX10_list_196 : decode cX10_list 196 = .ok (.iaload, 1) := by decide +kernel
theorem dX10_list_197 : decode cX10_list 197 = .ok (.goto 32, 3) := by decide +kernel
theorem dX10_list_200 : decode cX10_list 200 = .ok (.iload_n 3, 1) := by decide +kernel
theorem dX10_list_201 : decode cX10_list 201 = .ok (.aload_n 0, 1) := by decide +kernel
theorem dX10_list_202 : decode cX10_list 202 = .ok (.getfield 84, 3) := by decide +kernel
theorem dX10_list_205 : decode cX10_list 205 = .ok (.iload_n 2, 1) := by decide +kernel
theorem dX10_list_206 : decode cX10_list 206 = .ok (.iaload, 1) := by decide +kernel
theorem dX10_list_207 : decode cX10_list 207 = .ok (.if_icmp .ge 21, 3) := by decide +kernel
theorem dX10_list_210 : decode cX10_list 210 = .ok (.aload_n 0, 1) := by decide +kernel
theorem dX10_list_211 : decode cX10_list 211 = .ok (.getfield 87, 3) := by decide +kernel
theorem dX10_list_214 : decode cX10_list 214 = .ok (.bipush 40, 2) := by decide +kernel
theorem dX10_list_216 : decode cX10_list 216 = .ok (.iload_n 2, 1) := by decide +kernel
theorem dX10_list_217 : decode cX10_list 217 = .ok (.imul, 1) := by decide +kernel
theorem dX10_list_218 : decode cX10_list 218 = .ok (.iload_n 3, 1) := by decide +kernel
theorem dX10_list_219 : decode cX10_list 219 = .ok (.iadd, 1) := by decide +kernel
theorem dX10_list_220 : decode cX10_list 220 = .ok (.baload, 1) := by decide +kernel
theorem dX10_list_221 : decode cX10_list 221 = .ok (.sipush 255, 3) := by decide +kernel
theorem dX10_list_224 : decode cX10_list 224 = .ok (.iand, 1) := by decide +kernel
theorem dX10_list_225 : decode cX10_list 225 = .ok (.goto 4, 3) := by decide +kernel
theorem dX10_list_228 : decode cX10_list 228 = .ok (.iconst (-1), 1) := by decide +kernel
theorem dX10_list_229 : decode cX10_list 229 = .ok (.invokevirtual 179, 3) := by decide +kernel
theorem dX10_list_232 : decode cX10_list 232 = .ok (.return_, 1) := by decide +kernel
theorem dX10_goEnds_0 : decode cX10_goEnds 0 = .ok (.iload_n 3, 1) := by decide +kernel
theorem dX10_goEnds_1 : decode cX10_goEnds 1 = .ok (.bipush 24, 2) := by decide +kernel
theorem dX10_goEnds_3 : decode cX10_goEnds 3 = .ok (.if_icmp .ne 17, 3) := by decide +kernel
theorem dX10_goEnds_6 : decode cX10_goEnds 6 = .ok (.aload_n 0, 1) := by decide +kernel
theorem dX10_goEnds_7 : decode cX10_goEnds 7 = .ok (.iload_n 2, 1) := by decide +kernel
theorem dX10_goEnds_8 : decode cX10_goEnds 8 = .ok (.aload_n 0, 1) := by decide +kernel
theorem dX10_goEnds_9 : decode cX10_goEnds 9 = .ok (.getfield 33, 3) := by decide +kernel
theorem dX10_goEnds_12 : decode cX10_goEnds 12 = .ok (.iload_n 2, 1) := by decide +kernel
theorem dX10_goEnds_13 : decode cX10_goEnds 13 = .ok (.iaload, 1) := by decide +kernel
theorem dX10_goEnds_14 : decode cX10_goEnds 14 = .ok (.invokevirtual 171, 3) := by decide +kernel
theorem dX10_goEnds_17 : decode cX10_goEnds 17 = .ok (.goto 175, 3) := by decide +kernel
theorem dX10_goEnds_20 : decode cX10_goEnds 20 = .ok (.iload 4, 2) := by decide +kernel
theorem dX10_goEnds_22 : decode cX10_goEnds 22 = .ok (.ifCond .ne 16, 3) := by decide +kernel
theorem dX10_goEnds_25 : decode cX10_goEnds 25 = .ok (.aload_n 0, 1) := by decide +kernel
theorem dX10_goEnds_26 : decode cX10_goEnds 26 = .ok (.aload_n 0, 1) := by decide +kernel
theorem dX10_goEnds_27 : decode cX10_goEnds 27 = .ok (.getfield 33, 3) := by decide +kernel
theorem dX10_goEnds_30 : decode cX10_goEnds 30 = .ok (.iload_n 2, 1) := by decide +kernel
theorem dX10_goEnds_31 : decode cX10_goEnds 31 = .ok (.iaload, 1) := by decide +kernel
theorem dX10_goEnds_32 : decode cX10_goEnds 32 = .ok (.invokevirtual 209, 3) := by decide +kernel
theorem dX10_goEnds_35 : decode cX10_goEnds 35 = .ok (.goto 157, 3) := by decide +kernel
theorem dX10_goEnds_38 : decode cX10_goEnds 38 = .ok (.iload_n 3, 1) := by decide +kernel
theorem dX10_goEnds_39 : decode cX10_goEnds 39 = .ok (.bipush 25, 2) := by decide +kernel
theorem dX10_goEnds_41 : decode cX10_goEnds 41 = .ok (.if_icmp .ne 43, 3) := by decide +kernel
theorem dX10_goEnds_44 : decode cX10_goEnds 44 = .ok (.aload_n 0, 1) := by decide +kernel
theorem dX10_goEnds_45 : decode cX10_goEnds 45 = .ok (.iload_n 2, 1) := by decide +kernel
theorem dX10_goEnds_46 : decode cX10_goEnds 46 = .ok (.iconst 0, 1) := by decide +kernel
theorem dX10_goEnds_47 : decode cX10_goEnds 47 = .ok (.invokevirtual 235, 3) := by decide +kernel
theorem dX10_goEnds_50 : decode cX10_goEnds 50 = .ok (.ifCond .eq 142, 3) := by decide +kernel
theorem dX10_goEnds_53 : decode cX10_goEnds 53 = .ok (.aload_n 0, 1) := by decide +kernel
theorem dX10_goEnds_54 : decode cX10_goEnds 54 = .ok (.iconst 2, 1) := by decide +kernel
theorem dX10_goEnds_55 : decode cX10_goEnds 55 = .ok (.putfield 191, 3) := by decide +kernel
theorem dX10_goEnds_58 : decode cX10_goEnds 58 = .ok (.aload_n 0, 1) := by decide +kernel
theorem dX10_goEnds_59 : decode cX10_goEnds 59 = .ok (.aload_n 0, 1) := by decide +kernel
theorem dX10_goEnds_60 : decode cX10_goEnds 60 = .ok (.getfield 185, 3) := by decide +kernel
theorem dX10_goEnds_63 : decode cX10_goEnds 63 = .ok (.putfield 194, 3) := by decide +kernel
theorem dX10_goEnds_66 : decode cX10_goEnds 66 = .ok (.aload_n 0, 1) := by decide +kernel
theorem dX10_goEnds_67 : decode cX10_goEnds 67 = .ok (.iconst (-1), 1) := by decide +kernel
theorem dX10_goEnds_68 : decode cX10_goEnds 68 = .ok (.putfield 197, 3) := by decide +kernel
theorem dX10_goEnds_71 : decode cX10_goEnds 71 = .ok (.aload_n 0, 1) := by decide +kernel
theorem dX10_goEnds_72 : decode cX10_goEnds 72 = .ok (.dup, 1) := by decide +kernel
theorem dX10_goEnds_73 : decode cX10_goEnds 73 = .ok (.getfield 188, 3) := by decide +kernel
theorem dX10_goEnds_76 : decode cX10_goEnds 76 = .ok (.iconst 1, 1) := by decide +kernel
theorem dX10_goEnds_77 : decode cX10_goEnds 77 = .ok (.isub, 1) := by decide +kernel
theorem dX10_goEnds_78 : decode cX10_goEnds 78 = .ok (.putfield 188, 3) := by decide +kernel
theorem dX10_goEnds_81 : decode cX10_goEnds 81 = .ok (.goto 111, 3) := by decide +kernel
theorem dX10_goEnds_84 : decode cX10_goEnds 84 = .ok (.iload_n 3, 1) := by decide +kernel
theorem dX10_goEnds_85 : decode cX10_goEnds 85 = .ok (.bipush 26, 2) := by decide +kernel
theorem dX10_goEnds_87 : decode cX10_goEnds 87 = .ok (.if_icmp .ne 16, 3) := by decide +kernel
theorem dX10_goEnds_90 : decode cX10_goEnds 90 = .ok (.aload_n 0, 1) := by decide +kernel
theorem dX10_goEnds_91 : decode cX10_goEnds 91 = .ok (.dup, 1) := by decide +kernel
theorem dX10_goEnds_92 : decode cX10_goEnds 92 = .ok (.getfield 188, 3) := by decide +kernel
theorem dX10_goEnds_95 : decode cX10_goEnds 95 = .ok (.iconst 1, 1) := by decide +kernel
theorem dX10_goEnds_96 : decode cX10_goEnds 96 = .ok (.isub, 1) := by decide +kernel
theorem dX10_goEnds_97 : decode cX10_goEnds 97 = .ok (.putfield 188, 3) := by decide +kernel
theorem dX10_goEnds_100 : decode cX10_goEnds 100 = .ok (.goto 92, 3) := by decide +kernel
theorem dX10_goEnds_103 : decode cX10_goEnds 103 = .ok (.iload_n 3, 1) := by decide +kernel
theorem dX10_goEnds_104 : decode cX10_goEnds 104 = .ok (.bipush 27, 2) := by decide +kernel
theorem dX10_goEnds_106 : decode cX10_goEnds 106 = .ok (.if_icmp .ne 19, 3) := by decide +kernel
theorem dX10_goEnds_109 : decode cX10_goEnds 109 = .ok (.aload_n 0, 1) := by decide +kernel
theorem dX10_goEnds_110 : decode cX10_goEnds 110 = .ok (.iload_n 1, 1) := by decide +kernel
theorem dX10_goEnds_111 : decode cX10_goEnds 111 = .ok (.aload_n 0, 1) := by decide +kernel
theorem dX10_goEnds_112 : decode cX10_goEnds 112 = .ok (.getfield 36, 3) := by decide +kernel
theorem dX10_goEnds_115 : decode cX10_goEnds 115 = .ok (.iload_n 2, 1) := by decide +kernel
theorem dX10_goEnds_116 : decode cX10_goEnds 116 = .ok (.iaload, 1) := by decide +kernel
theorem dX10_goEnds_117 : decode cX10_goEnds 117 = .ok (.iload 4, 2) := by decide +kernel
theorem dX10_goEnds_119 : decode cX10_goEnds 119 = .ok (.invokevirtual 272, 3) := by decide +kernel
theorem dX10_goEnds_122 : decode cX10_goEnds 122 = .ok (.goto 70, 3) := by decide +kernel
theorem dX10_goEnds_125 : decode cX10_goEnds 125 = .ok (.iload 4, 2) := by decide +kernel
theorem dX10_goEnds_127 : decode cX10_goEnds 127 = .ok (.iconst 1, 1) := by decide +kernel
theorem dX10_goEnds_128 : decode cX10_goEnds 128 = .ok (.if_icmp .ne 56, 3) := by decide +kernel
theorem dX10_goEnds_131 : decode cX10_goEnds 131 = .ok (.aload_n 0, 1) := by decide +kernel
theorem dX10_goEnds_132 : decode cX10_goEnds 132 = .ok (.getfield 106, 3) := by decide +kernel
theorem dX10_goEnds_135 : decode cX10_goEnds 135 = .ok (.iload_n 1, 1) := by decide +kernel
theorem dX10_goEnds_136 : decode cX10_goEnds 136 = .ok (.aload_n 0, 1) := by decide +kernel
theorem dX10_goEnds_137 : decode cX10_goEnds 137 = .ok (.getfield 185, 3) := by decide +kernel
theorem dX10_goEnds_140 : decode cX10_goEnds 140 = .ok (.iastore, 1) := by decide +kernel
theorem dX10_goEnds_141 : decode cX10_goEnds 141 = .ok (.aload_n 0, 1) := by decide +kernel
theorem dX10_goEnds_142 : decode cX10_goEnds 142 = .ok (.getfield 109, 3) := by decide +kernel
theorem dX10_goEnds_145 : decode cX10_goEnds 145 = .ok (.iload_n 1, 1) := by decide +kernel
theorem dX10_goEnds_146 : decode cX10_goEnds 146 = .ok (.aload_n 0, 1) := by decide +kernel
theorem dX10_goEnds_147 : decode cX10_goEnds 147 = .ok (.getfield 182, 3) := by decide +kernel
theorem dX10_goEnds_150 : decode cX10_goEnds 150 = .ok (.iastore, 1) := by decide +kernel
theorem dX10_goEnds_151 : decode cX10_goEnds 151 = .ok (.aload_n 0, 1) := by decide +kernel
theorem dX10_goEnds_152 : decode cX10_goEnds 152 = .ok (.getfield 45, 3) := by decide +kernel
theorem dX10_goEnds_155 : decode cX10_goEnds 155 = .ok (.iconst 5, 1) := by decide +kernel
theorem dX10_goEnds_156 : decode cX10_goEnds 156 = .ok (.aload_n 0, 1) := by decide +kernel
theorem dX10_goEnds_157 : decode cX10_goEnds 157 = .ok (.getfield 185, 3) := by decide +kernel
theorem dX10_goEnds_160 : decode cX10_goEnds 160 = .ok (.iastore, 1) := by decide +kernel
theorem dX10_goEnds_161 : decode cX10_goEnds 161 = .ok (.aload_n 0, 1) := by decide +kernel
theorem dX10_goEnds_162 : decode cX10_goEnds 162 = .ok (.getfield 42, 3) := by decide +kernel
theorem dX10_goEnds_165 : decode cX10_goEnds 165 = .ok (.iconst 5, 1) := by decide +kernel
theorem dX10_goEnds_166 : decode cX10_goEnds 166 = .ok (.aload_n 0, 1) := by decide +kernel
theorem dX10_goEnds_167 : decode cX10_goEnds 167 = .ok (.getfield 182, 3) := by decide +kernel
theorem dX10_goEnds_170 : decode cX10_goEnds 170 = .ok (.iastore, 1) := by decide +kernel
theorem dX10_goEnds_171 : decode cX10_goEnds 171 = .ok (.aload_n 0, 1) := by decide +kernel
theorem dX10_goEnds_172 : decode cX10_goEnds 172 = .ok (.aload_n 0, 1) := by decide +kernel
theorem dX10_goEnds_173 : decode cX10_goEnds 173 = .ok (.getfield 39, 3) := by decide +kernel
theorem dX10_goEnds_176 : decode cX10_goEnds 176 = .ok (.iload_n 2, 1) := by decide +kernel
theorem dX10_goEnds_177 : decode cX10_goEnds 177 = .ok (.iaload, 1) := by decide +kernel
theorem dX10_goEnds_178 : decode cX10_goEnds 178 = .ok (.invokevirtual 209, 3) := by decide +kernel
theorem dX10_goEnds_181 : decode cX10_goEnds 181 = .ok (.goto 11, 3) := by decide +kernel
theorem dX10_goEnds_184 : decode cX10_goEnds 184 = .ok (.aload_n 0, 1) := by decide +kernel
theorem dX10_goEnds_185 : decode cX10_goEnds 185 = .ok (.iload_n 1, 1) := by decide +kernel
theorem dX10_goEnds_186 : decode cX10_goEnds 186 = .ok (.iload_n 2, 1) := by decide +kernel
theorem dX10_goEnds_187 : decode cX10_goEnds 187 = .ok (.iload 4, 2) := by decide +kernel
theorem dX10_goEnds_189 : decode cX10_goEnds 189 = .ok (.invokevirtual 275, 3) := by decide +kernel
theorem dX10_goEnds_192 : decode cX10_goEnds 192 = .ok (.return_, 1) := by decide +kernel
theorem dX10_goFinally_0 : decode cX10_goFinally 0 = .ok (.iload_n 3, 1) := by decide +kernel
theorem dX10_goFinally_1 : decode cX10_goFinally 1 = .ok (.iconst 1, 1) := by decide +kernel
theorem dX10_goFinally_2 : decode cX10_goFinally 2 = .ok (.if_icmp .ne 31, 3) := by decide +kernel
theorem dX10_goFinally_5 : decode cX10_goFinally 5 = .ok (.aload_n 0, 1) := by decide +kernel
theorem dX10_goFinally_6 : decode cX10_goFinally 6 = .ok (.getfield 106, 3) := by decide +kernel
theorem dX10_goFinally_9 : decode cX10_goFinally 9 = .ok (.iload_n 1, 1) := by decide +kernel
theorem dX10_goFinally_10 : decode cX10_goFinally 10 = .ok (.aload_n 0, 1) := by decide +kernel
theorem dX10_goFinally_11 : decode cX10_goFinally 11 = .ok (.getfield 185, 3) := by decide +kernel
theorem dX10_goFinally_14 : decode cX10_goFinally 14 = .ok (.iastore, 1) := by decide +kernel
theorem dX10_goFinally_15 : decode cX10_goFinally 15 = .ok (.aload_n 0, 1) := by decide +kernel
theorem dX10_goFinally_16 : decode cX10_goFinally 16 = .ok (.getfield 109, 3) := by decide +kernel
theorem dX10_goFinally_19 : decode cX10_goFinally 19 = .ok (.iload_n 1, 1) := by decide +kernel
theorem dX10_goFinally_20 : decode cX10_goFinally 20 = .ok (.aload_n 0, 1) := by decide +kernel
theorem dX10_goFinally_21 : decode cX10_goFinally 21 = .ok (.getfield 182, 3) := by decide +kernel
theorem dX10_goFinally_24 : decode cX10_goFinally 24 = .ok (.iastore, 1) := by decide +kernel
theorem dX10_goFinally_25 : decode cX10_goFinally 25 = .ok (.aload_n 0, 1) := by decide +kernel
theorem dX10_goFinally_26 : decode cX10_goFinally 26 = .ok (.iload_n 2, 1) := by decide +kernel
theorem dX10_goFinally_27 : decode cX10_goFinally 27 = .ok (.invokevirtual 209, 3) := by decide +kernel
theorem dX10_goFinally_30 : decode cX10_goFinally 30 = .ok (.goto 20, 3) := by decide +kernel
theorem dX10_goFinally_33 : decode cX10_goFinally 33 = .ok (.aload_n 0, 1) := by decide +kernel
theorem dX10_goFinally_34 : decode cX10_goFinally 34 = .ok (.iload_n 1, 1) := by decide +kernel
theorem dX10_goFinally_35 : decode cX10_goFinally 35 = .ok (.aload_n 0, 1) := by decide +kernel
theorem dX10_goFinally_36 : decode cX10_goFinally 36 = .ok (.getfield 109, 3) := by decide +kernel
theorem dX10_goFinally_39 : decode cX10_goFinally 39 = .ok (.iload_n 1, 1) := by decide +kernel
theorem dX10_goFinally_40 : decode cX10_goFinally 40 = .ok (.iaload, 1) := by decide +kernel
theorem dX10_goFinally_41 : decode cX10_goFinally 41 = .ok (.aload_n 0, 1) := by decide +kernel
theorem dX10_goFinally_42 : decode cX10_goFinally 42 = .ok (.getfield 106, 3) := by decide +kernel
theorem dX10_goFinally_45 : decode cX10_goFinally 45 = .ok (.iload_n 1, 1) := by decide +kernel
theorem dX10_goFinally_46 : decode cX10_goFinally 46 = .ok (.iaload, 1) := by decide +kernel
theorem dX10_goFinally_47 : decode cX10_goFinally 47 = .ok (.invokevirtual 278, 3) := by decide +kernel
theorem dX10_goFinally_50 : decode cX10_goFinally 50 = .ok (.return_, 1) := by decide +kernel
theorem dX10_goOn_0 : decode cX10_goOn 0 = .ok (.aload_n 0, 1) := by decide +kernel
theorem dX10_goOn_1 : decode cX10_goOn 1 = .ok (.getfield 112, 3) := by decide +kernel
theorem dX10_goOn_4 : decode cX10_goOn 4 = .ok (.iload_n 1, 1) := by decide +kernel
theorem dX10_goOn_5 : decode cX10_goOn 5 = .ok (.iaload, 1) := by decide +kernel
theorem dX10_goOn_6 : decode cX10_goOn 6 = .ok (.ifCond .eq 46, 3) := by decide +kernel
theorem dX10_goOn_9 : decode cX10_goOn 9 = .ok (.aload_n 0, 1) := by decide +kernel
theorem dX10_goOn_10 : decode cX10_goOn 10 = .ok (.aload_n 0, 1) := by decide +kernel
theorem dX10_goOn_11 : decode cX10_goOn 11 = .ok (.getfield 112, 3) := by decide +kernel
theorem dX10_goOn_14 : decode cX10_goOn 14 = .ok (.iload_n 1, 1) := by decide +kernel
theorem dX10_goOn_15 : decode cX10_goOn 15 = .ok (.iaload, 1) := by decide +kernel
theorem dX10_goOn_16 : decode cX10_goOn 16 = .ok (.putfield 191, 3) := by decide +kernel
theorem dX10_goOn_19 : decode cX10_goOn 19 = .ok (.aload_n 0, 1) := by decide +kernel
theorem dX10_goOn_20 : decode cX10_goOn 20 = .ok (.aload_n 0, 1) := by decide +kernel
theorem dX10_goOn_21 : decode cX10_goOn 21 = .ok (.getfield 115, 3) := by decide +kernel
theorem dX10_goOn_24 : decode cX10_goOn 24 = .ok (.iload_n 1, 1) := by decide +kernel
theorem dX10_goOn_25 : decode cX10_goOn 25 = .ok (.iaload, 1) := by decide +kernel
theorem dX10_goOn_26 : decode cX10_goOn 26 = .ok (.putfield 194, 3) := by decide +kernel
theorem dX10_goOn_29 : decode cX10_goOn 29 = .ok (.aload_n 0, 1) := by decide +kernel
theorem dX10_goOn_30 : decode cX10_goOn 30 = .ok (.aload_n 0, 1) := by decide +kernel
theorem dX10_goOn_31 : decode cX10_goOn 31 = .ok (.getfield 118, 3) := by decide +kernel
theorem dX10_goOn_34 : decode cX10_goOn 34 = .ok (.iload_n 1, 1) := by decide +kernel
theorem dX10_goOn_35 : decode cX10_goOn 35 = .ok (.iaload, 1) := by decide +kernel
theorem dX10_goOn_36 : decode cX10_goOn 36 = .ok (.putfield 197, 3) := by decide +kernel
theorem dX10_goOn_39 : decode cX10_goOn 39 = .ok (.aload_n 0, 1) := by decide +kernel
theorem dX10_goOn_40 : decode cX10_goOn 40 = .ok (.dup, 1) := by decide +kernel
theorem dX10_goOn_41 : decode cX10_goOn 41 = .ok (.getfield 188, 3) := by decide +kernel
theorem dX10_goOn_44 : decode cX10_goOn 44 = .ok (.iconst 1, 1) := by decide +kernel
theorem dX10_goOn_45 : decode cX10_goOn 45 = .ok (.isub, 1) := by decide +kernel
theorem dX10_goOn_46 : decode cX10_goOn 46 = .ok (.putfield 188, 3) := by decide +kernel
theorem dX10_goOn_49 : decode cX10_goOn 49 = .ok (.goto 9, 3) := by decide +kernel
theorem dX10_goOn_52 : decode cX10_goOn 52 = .ok (.aload_n 0, 1) := by decide +kernel
theorem dX10_goOn_53 : decode cX10_goOn 53 = .ok (.iload_n 2, 1) := by decide +kernel
theorem dX10_goOn_54 : decode cX10_goOn 54 = .ok (.iload_n 3, 1) := by decide +kernel
theorem dX10_goOn_55 : decode cX10_goOn 55 = .ok (.invokevirtual 179, 3) := by decide +kernel
theorem dX10_goOn_58 : decode cX10_goOn 58 = .ok (.return_, 1) := by decide +kernel
theorem dX10_goBracket_0 : decode cX10_goBracket 0 = .ok (.iload_n 3, 1) := by decide +kernel
theorem dX10_goBracket_1 : decode cX10_goBracket 1 = .ok (.iconst 2, 1) := by decide +kernel
theorem dX10_goBracket_2 : decode cX10_goBracket 2 = .ok (.if_icmp .ne 60, 3) := by decide +kernel
theorem dX10_goBracket_5 : decode cX10_goBracket 5 = .ok (.aload_n 0, 1) := by decide +kernel
theorem dX10_goBracket_6 : decode cX10_goBracket 6 = .ok (.getfield 121, 3) := by decide +kernel
theorem dX10_goBracket_9 : decode cX10_goBracket 9 = .ok (.iload_n 1, 1) := by decide +kernel
theorem dX10_goBracket_10 : decode cX10_goBracket 10 = .ok (.aload_n 0, 1) := by decide +kernel
theorem dX10_goBracket_11 : decode cX10_goBracket 11 = .ok (.getfield 185, 3) := by decide +kernel
theorem dX10_goBracket_14 : decode cX10_goBracket 14 = .ok (.iastore, 1) := by decide +kernel
theorem dX10_goBracket_15 : decode cX10_goBracket 15 = .ok (.aload_n 0, 1) := by decide +kernel
theorem dX10_goBracket_16 : decode cX10_goBracket 16 = .ok (.getfield 124, 3) := by decide +kernel
theorem dX10_goBracket_19 : decode cX10_goBracket 19 = .ok (.iload_n 1, 1) := by decide +kernel
theorem dX10_goBracket_20 : decode cX10_goBracket 20 = .ok (.aload_n 0, 1) := by decide +kernel
theorem dX10_goBracket_21 : decode cX10_goBracket 21 = .ok (.getfield 182, 3) := by decide +kernel
theorem dX10_goBracket_24 : decode cX10_goBracket 24 = .ok (.iastore, 1) := by decide +kernel
theorem dX10_goBracket_25 : decode cX10_goBracket 25 = .ok (.aload_n 0, 1) := by decide +kernel
theorem dX10_goBracket_26 : decode cX10_goBracket 26 = .ok (.getfield 45, 3) := by decide +kernel
theorem dX10_goBracket_29 : decode cX10_goBracket 29 = .ok (.iconst 5, 1) := by decide +kernel
theorem dX10_goBracket_30 : decode cX10_goBracket 30 = .ok (.aload_n 0, 1) := by decide +kernel
theorem dX10_goBracket_31 : decode cX10_goBracket 31 = .ok (.getfield 106, 3) := by decide +kernel
theorem dX10_goBracket_34 : decode cX10_goBracket 34 = .ok (.iload_n 1, 1) := by decide +kernel
theorem dX10_goBracket_35 : decode cX10_goBracket 35 = .ok (.iaload, 1) := by decide +kernel
theorem dX10_goBracket_36 : decode cX10_goBracket 36 = .ok (.iastore, 1) := by decide +kernel
theorem dX10_goBracket_37 : decode cX10_goBracket 37 = .ok (.aload_n 0, 1) := by decide +kernel
theorem dX10_goBracket_38 : decode cX10_goBracket 38 = .ok (.getfield 42, 3) := by decide +kernel
theorem dX10_goBracket_41 : decode cX10_goBracket 41 = .ok (.iconst 5, 1) := by decide +kernel
theorem dX10_goBracket_42 : decode cX10_goBracket 42 = .ok (.aload_n 0, 1) := by decide +kernel
theorem dX10_goBracket_43 : decode cX10_goBracket 43 = .ok (.getfield 109, 3) := by decide +kernel
theorem dX10_goBracket_46 : decode cX10_goBracket 46 = .ok (.iload_n 1, 1) := by decide +kernel
theorem dX10_goBracket_47 : decode cX10_goBracket 47 = .ok (.iaload, 1) := by decide +kernel
theorem dX10_goBracket_48 : decode cX10_goBracket 48 = .ok (.iastore, 1) := by decide +kernel
theorem dX10_goBracket_49 : decode cX10_goBracket 49 = .ok (.aload_n 0, 1) := by decide +kernel
theorem dX10_goBracket_50 : decode cX10_goBracket 50 = .ok (.aload_n 0, 1) := by decide +kernel
theorem dX10_goBracket_51 : decode cX10_goBracket 51 = .ok (.getfield 36, 3) := by decide +kernel
theorem dX10_goBracket_54 : decode cX10_goBracket 54 = .ok (.iload_n 2, 1) := by decide +kernel
theorem dX10_goBracket_55 : decode cX10_goBracket 55 = .ok (.iaload, 1) := by decide +kernel
theorem dX10_goBracket_56 : decode cX10_goBracket 56 = .ok (.invokevirtual 209, 3) := by decide +kernel
theorem dX10_goBracket_59 : decode cX10_goBracket 59 = .ok (.goto 20, 3) := by decide +kernel
theorem dX10_goBracket_62 : decode cX10_goBracket 62 = .ok (.aload_n 0, 1) := by decide +kernel
theorem dX10_goBracket_63 : decode cX10_goBracket 63 = .ok (.iload_n 1, 1) := by decide +kernel
theorem dX10_goBracket_64 : decode cX10_goBracket 64 = .ok (.aload_n 0, 1) := by decide +kernel
theorem dX10_goBracket_65 : decode cX10_goBracket 65 = .ok (.getfield 124, 3) := by decide +kernel
theorem dX10_goBracket_68 : decode cX10_goBracket 68 = .ok (.iload_n 1, 1) := by decide +kernel
theorem dX10_goBracket_69 : decode cX10_goBracket 69 = .ok (.iaload, 1) := by decide +kernel
theorem dX10_goBracket_70 : decode cX10_goBracket 70 = .ok (.aload_n 0, 1) := by decide +kernel
theorem dX10_goBracket_71 : decode cX10_goBracket 71 = .ok (.getfield 121, 3) := by decide +kernel
theorem dX10_goBracket_74 : decode cX10_goBracket 74 = .ok (.iload_n 1, 1) := by decide +kernel
theorem dX10_goBracket_75 : decode cX10_goBracket 75 = .ok (.iaload, 1) := by decide +kernel
theorem dX10_goBracket_76 : decode cX10_goBracket 76 = .ok (.invokevirtual 278, 3) := by decide +kernel
theorem dX10_goBracket_79 : decode cX10_goBracket 79 = .ok (.return_, 1) := by decide +kernel
theorem dX10_unwind_0 : decode cX10_unwind 0 = .ok (.aload_n 0, 1) := by decide +kernel
theorem dX10_unwind_1 : decode cX10_unwind 1 = .ok (.getfield 100, 3) := by decide +kernel
theorem dX10_unwind_4 : decode cX10_unwind 4 = .ok (.iload_n 1, 1) := by decide +kernel
theorem dX10_unwind_5 : decode cX10_unwind 5 = .ok (.iaload, 1) := by decide +kernel
theorem dX10_unwind_6 : decode cX10_unwind 6 = .ok (.istore_n 2, 1) := by decide +kernel
theorem dX10_unwind_7 : decode cX10_unwind 7 = .ok (.aload_n 0, 1) := by decide +kernel
theorem dX10_unwind_8 : decode cX10_unwind 8 = .ok (.getfield 30, 3) := by decide +kernel
theorem dX10_unwind_11 : decode cX10_unwind 11 = .ok (.iload_n 2, 1) := by decide +kernel
theorem dX10_unwind_12 : decode cX10_unwind 12 = .ok (.iaload, 1) := by decide +kernel
theorem dX10_unwind_13 : decode cX10_unwind 13 = .ok (.istore_n 3, 1) := by decide +kernel
theorem dX10_unwind_14 : decode cX10_unwind 14 = .ok (.aload_n 0, 1) := by decide +kernel
theorem dX10_unwind_15 : decode cX10_unwind 15 = .ok (.getfield 103, 3) := by decide +kernel
theorem dX10_unwind_18 : decode cX10_unwind 18 = .ok (.iload_n 1, 1) := by decide +kernel
theorem dX10_unwind_19 : decode cX10_unwind 19 = .ok (.iaload, 1) := by decide +kernel
theorem dX10_unwind_20 : decode cX10_unwind 20 = .ok (.istore 4, 2) := by decide +kernel
theorem dX10_unwind_22 : decode cX10_unwind 22 = .ok (.iload_n 3, 1) := by decide +kernel
theorem dX10_unwind_23 : decode cX10_unwind 23 = .ok (.bipush 26, 2) := by decide +kernel
theorem dX10_unwind_25 : decode cX10_unwind 25 = .ok (.if_icmp .ne 74, 3) := by decide +kernel
theorem dX10_unwind_28 : decode cX10_unwind 28 = .ok (.iload 4, 2) := by decide +kernel
theorem dX10_unwind_30 : decode cX10_unwind 30 = .ok (.iconst 1, 1) := by decide +kernel
theorem dX10_unwind_31 : decode cX10_unwind 31 = .ok (.if_icmp .ne 68, 3) := by decide +kernel
theorem dX10_unwind_34 : decode cX10_unwind 34 = .ok (.aload_n 0, 1) := by decide +kernel
theorem dX10_unwind_35 : decode cX10_unwind 35 = .ok (.getfield 191, 3) := by decide +kernel
theorem dX10_unwind_38 : decode cX10_unwind 38 = .ok (.iconst 1, 1) := by decide +kernel
theorem dX10_unwind_39 : decode cX10_unwind 39 = .ok (.if_icmp .ne 60, 3) := by decide +kernel
theorem dX10_unwind_42 : decode cX10_unwind 42 = .ok (.aload_n 0, 1) := by decide +kernel
theorem dX10_unwind_43 : decode cX10_unwind 43 = .ok (.getfield 39, 3) := by decide +kernel
theorem dX10_unwind_46 : decode cX10_unwind 46 = .ok (.iload_n 2, 1) := by decide +kernel
theorem dX10_unwind_47 : decode cX10_unwind 47 = .ok (.iaload, 1) := by decide +kernel
theorem dX10_unwind_48 : decode cX10_unwind 48 = .ok (.aload_n 0, 1) := by decide +kernel
theorem dX10_unwind_49 : decode cX10_unwind 49 = .ok (.getfield 194, 3) := by decide +kernel
theorem dX10_unwind_52 : decode cX10_unwind 52 = .ok (.ishr, 1) := by decide +kernel
theorem dX10_unwind_53 : decode cX10_unwind 53 = .ok (.iconst 1, 1) := by decide +kernel
theorem dX10_unwind_54 : decode cX10_unwind 54 = .ok (.iand, 1) := by decide +kernel
theorem dX10_unwind_55 : decode cX10_unwind 55 = .ok (.iconst 1, 1) := by decide +kernel
theorem dX10_unwind_56 : decode cX10_unwind 56 = .ok (.if_icmp .ne 43, 3) := by decide +kernel
theorem dX10_unwind_59 : decode cX10_unwind 59 = .ok (.aload_n 0, 1) := by decide +kernel
theorem dX10_unwind_60 : decode cX10_unwind 60 = .ok (.getfield 42, 3) := by decide +kernel
theorem dX10_unwind_63 : decode cX10_unwind 63 = .ok (.iconst 0, 1) := by decide +kernel
theorem dX10_unwind_64 : decode cX10_unwind 64 = .ok (.iconst 0, 1) := by decide +kernel
theorem dX10_unwind_65 : decode cX10_unwind 65 = .ok (.iastore, 1) := by decide +kernel
theorem dX10_unwind_66 : decode cX10_unwind 66 = .ok (.aload_n 0, 1) := by decide +kernel
theorem dX10_unwind_67 : decode cX10_unwind 67 = .ok (.getfield 45, 3) := by decide +kernel
theorem dX10_unwind_70 : decode cX10_unwind 70 = .ok (.iconst 0, 1) := by decide +kernel
theorem dX10_unwind_71 : decode cX10_unwind 71 = .ok (.aload_n 0, 1) := by decide +kernel
theorem dX10_unwind_72 : decode cX10_unwind 72 = .ok (.getfield 194, 3) := by decide +kernel
theorem dX10_unwind_75 : decode cX10_unwind 75 = .ok (.iastore, 1) := by decide +kernel
theorem dX10_unwind_76 : decode cX10_unwind 76 = .ok (.aload_n 0, 1) := by decide +kernel
theorem dX10_unwind_77 : decode cX10_unwind 77 = .ok (.iconst 0, 1) := by decide +kernel
theorem dX10_unwind_78 : decode cX10_unwind 78 = .ok (.putfield 191, 3) := by decide +kernel
theorem dX10_unwind_81 : decode cX10_unwind 81 = .ok (.aload_n 0, 1) := by decide +kernel
theorem dX10_unwind_82 : decode cX10_unwind 82 = .ok (.getfield 103, 3) := by decide +kernel
theorem dX10_unwind_85 : decode cX10_unwind 85 = .ok (.iload_n 1, 1) := by decide +kernel
theorem dX10_unwind_86 : decode cX10_unwind 86 = .ok (.iconst 2, 1) := by decide +kernel
theorem dX10_unwind_87 : decode cX10_unwind 87 = .ok (.iastore, 1) := by decide +kernel
theorem dX10_unwind_88 : decode cX10_unwind 88 = .ok (.aload_n 0, 1) := by decide +kernel
theorem dX10_unwind_89 : decode cX10_unwind 89 = .ok (.aload_n 0, 1) := by decide +kernel
theorem dX10_unwind_90 : decode cX10_unwind 90 = .ok (.getfield 36, 3) := by decide +kernel
theorem dX10_unwind_93 : decode cX10_unwind 93 = .ok (.iload_n 2, 1) := by decide +kernel
theorem dX10_unwind_94 : decode cX10_unwind 94 = .ok (.iaload, 1) := by decide +kernel
theorem dX10_unwind_95 : decode cX10_unwind 95 = .ok (.invokevirtual 209, 3) := by decide +kernel
theorem dX10_unwind_98 : decode cX10_unwind 98 = .ok (.return_, 1) := by decide +kernel
theorem dX10_unwind_99 : decode cX10_unwind 99 = .ok (.iload_n 3, 1) := by decide +kernel
theorem dX10_unwind_100 : decode cX10_unwind 100 = .ok (.bipush 27, 2) := by decide +kernel
theorem dX10_unwind_102 : decode cX10_unwind 102 = .ok (.if_icmp .ne 9, 3) := by decide +kernel
theorem dX10_unwind_105 : decode cX10_unwind 105 = .ok (.iload 4, 2) := by decide +kernel
theorem dX10_unwind_107 : decode cX10_unwind 107 = .ok (.iconst 1, 1) := by decide +kernel
theorem dX10_unwind_108 : decode cX10_unwind 108 = .ok (.if_icmp .eq 15, 3) := by decide +kernel
theorem dX10_unwind_111 : decode cX10_unwind 111 = .ok (.iload_n 3, 1) := by decide +kernel
theorem dX10_unwind_112 : decode cX10_unwind 112 = .ok (.bipush 28, 2) := by decide +kernel
theorem dX10_unwind_114 : decode cX10_unwind 114 = .ok (.if_icmp .ne 13, 3) := by decide +kernel
theorem dX10_unwind_117 : decode cX10_unwind 117 = .ok (.iload 4, 2) := by decide +kernel
theorem dX10_unwind_119 : decode cX10_unwind 119 = .ok (.iconst 2, 1) := by decide +kernel
theorem dX10_unwind_120 : decode cX10_unwind 120 = .ok (.if_icmp .ne 7, 3) := by decide +kernel
theorem dX10_unwind_123 : decode cX10_unwind 123 = .ok (.iconst 1, 1) := by decide +kernel
theorem dX10_unwind_124 : decode cX10_unwind 124 = .ok (.goto 4, 3) := by decide +kernel
theorem dX10_unwind_127 : decode cX10_unwind 127 = .ok (.iconst 0, 1) := by decide +kernel
theorem dX10_unwind_128 : decode cX10_unwind 128 = .ok (.istore 5, 2) := by decide +kernel
theorem dX10_unwind_130 : decode cX10_unwind 130 = .ok (.iload 5, 2) := by decide +kernel
theorem dX10_unwind_132 : decode cX10_unwind 132 = .ok (.ifCond .ne 14, 3) := by decide +kernel
theorem dX10_unwind_135 : decode cX10_unwind 135 = .ok (.aload_n 0, 1) := by decide +kernel
theorem dX10_unwind_136 : decode cX10_unwind 136 = .ok (.dup, 1) := by decide +kernel
theorem dX10_unwind_137 : decode cX10_unwind 137 = .ok (.getfield 188, 3) := by decide +kernel
theorem dX10_unwind_140 : decode cX10_unwind 140 = .ok (.iconst 1, 1) := by decide +kernel
theorem dX10_unwind_141 : decode cX10_unwind 141 = .ok (.isub, 1) := by decide +kernel
theorem dX10_unwind_142 : decode cX10_unwind 142 = .ok (.putfield 188, 3) := by decide +kernel
theorem dX10_unwind_145 : decode cX10_unwind 145 = .ok (.return_, 1) := by decide +kernel
theorem dX10_unwind_146 : decode cX10_unwind 146 = .ok (.aload_n 0, 1) := by decide +kernel
theorem dX10_unwind_147 : decode cX10_unwind 147 = .ok (.getfield 112, 3) := by decide +kernel
theorem dX10_unwind_150 : decode cX10_unwind 150 = .ok (.iload_n 1, 1) := by decide +kernel
theorem dX10_unwind_151 : decode cX10_unwind 151 = .ok (.aload_n 0, 1) := by decide +kernel
theorem dX10_unwind_152 : decode cX10_unwind 152 = .ok (.getfield 191, 3) := by decide +kernel
theorem dX10_unwind_155 : decode cX10_unwind 155 = .ok (.iastore, 1) := by decide +kernel
theorem dX10_unwind_156 : decode cX10_unwind 156 = .ok (.aload_n 0, 1) := by decide +kernel
theorem dX10_unwind_157 : decode cX10_unwind 157 = .ok (.getfield 115, 3) := by decide +kernel
theorem dX10_unwind_160 : decode cX10_unwind 160 = .ok (.iload_n 1, 1) := by decide +kernel
theorem dX10_unwind_161 : decode cX10_unwind 161 = .ok (.aload_n 0, 1) := by decide +kernel
theorem dX10_unwind_162 : decode cX10_unwind 162 = .ok (.getfield 194, 3) := by decide +kernel
theorem dX10_unwind_165 : decode cX10_unwind 165 = .ok (.iastore, 1) := by decide +kernel
theorem dX10_unwind_166 : decode cX10_unwind 166 = .ok (.aload_n 0, 1) := by decide +kernel
theorem dX10_unwind_167 : decode cX10_unwind 167 = .ok (.getfield 118, 3) := by decide +kernel
theorem dX10_unwind_170 : decode cX10_unwind 170 = .ok (.iload_n 1, 1) := by decide +kernel
theorem dX10_unwind_171 : decode cX10_unwind 171 = .ok (.aload_n 0, 1) := by decide +kernel
theorem dX10_unwind_172 : decode cX10_unwind 172 = .ok (.getfield 197, 3) := by decide +kernel
theorem dX10_unwind_175 : decode cX10_unwind 175 = .ok (.iastore, 1) := by decide +kernel
theorem dX10_unwind_176 : decode cX10_unwind 176 = .ok (.aload_n 0, 1) := by decide +kernel
theorem dX10_unwind_177 : decode cX10_unwind 177 = .ok (.iconst 0, 1) := by decide +kernel
theorem dX10_unwind_178 : decode cX10_unwind 178 = .ok (.putfield 191, 3) := by decide +kernel
theorem dX10_unwind_181 : decode cX10_unwind 181 = .ok (.aload_n 0, 1) := by decide +kernel
theorem dX10_unwind_182 : decode cX10_unwind 182 = .ok (.getfield 103, 3) := by decide +kernel
theorem dX10_unwind_185 : decode cX10_unwind 185 = .ok (.iload_n 1, 1) := by decide +kernel
theorem dX10_unwind_186 : decode cX10_unwind 186 = .ok (.iload 4, 2) := by decide +kernel
theorem dX10_unwind_188 : decode cX10_unwind 188 = .ok (.iconst 1, 1) := by decide +kernel
theorem dX10_unwind_189 : decode cX10_unwind 189 = .ok (.iadd, 1) := by decide +kernel
theorem dX10_unwind_190 : decode cX10_unwind 190 = .ok (.iastore, 1) := by decide +kernel
theorem dX10_unwind_191 : decode cX10_unwind 191 = .ok (.iload_n 3, 1) := by decide +kernel
theorem dX10_unwind_192 : decode cX10_unwind 192 = .ok (.bipush 28, 2) := by decide +kernel
theorem dX10_unwind_194 : decode cX10_unwind 194 = .ok (.if_icmp .ne 27, 3) := by decide +kernel
theorem dX10_unwind_197 : decode cX10_unwind 197 = .ok (.aload_n 0, 1) := by decide +kernel
theorem dX10_unwind_198 : decode cX10_unwind 198 = .ok (.getfield 45, 3) := by decide +kernel
theorem dX10_unwind_201 : decode cX10_unwind 201 = .ok (.iconst 5, 1) := by decide +kernel
theorem dX10_unwind_202 : decode cX10_unwind 202 = .ok (.aload_n 0, 1) := by decide +kernel
theorem dX10_unwind_203 : decode cX10_unwind 203 = .ok (.getfield 106, 3) := by decide +kernel
theorem dX10_unwind_206 : decode cX10_unwind 206 = .ok (.iload_n 1, 1) := by decide +kernel
theorem dX10_unwind_207 : decode cX10_unwind 207 = .ok (.iaload, 1) := by decide +kernel
theorem dX10_unwind_208 : decode cX10_unwind 208 = .ok (.iastore, 1) := by decide +kernel
theorem dX10_unwind_209 : decode cX10_unwind 209 = .ok (.aload_n 0, 1) := by decide +kernel
theorem dX10_unwind_210 : decode cX10_unwind 210 = .ok (.getfield 42, 3) := by decide +kernel
theorem dX10_unwind_213 : decode cX10_unwind 213 = .ok (.iconst 5, 1) := by decide +kernel
theorem dX10_unwind_214 : decode cX10_unwind 214 = .ok (.aload_n 0, 1) := by decide +kernel
theorem dX10_unwind_215 : decode cX10_unwind 215 = .ok (.getfield 109, 3) := by decide +kernel
theorem dX10_unwind_218 : decode cX10_unwind 218 = .ok (.iload_n 1, 1) := by decide +kernel
theorem dX10_unwind_219 : decode cX10_unwind 219 = .ok (.iaload, 1) := by decide +kernel
theorem dX10_unwind_220 : decode cX10_unwind 220 = .ok (.iastore, 1) := by decide +kernel
theorem dX10_unwind_221 : decode cX10_unwind 221 = .ok (.aload_n 0, 1) := by decide +kernel
theorem dX10_unwind_222 : decode cX10_unwind 222 = .ok (.aload_n 0, 1) := by decide +kernel
theorem dX10_unwind_223 : decode cX10_unwind 223 = .ok (.getfield 36, 3) := by decide +kernel
theorem dX10_unwind_226 : decode cX10_unwind 226 = .ok (.iload_n 2, 1) := by decide +kernel
theorem dX10_unwind_227 : decode cX10_unwind 227 = .ok (.iaload, 1) := by decide +kernel
theorem dX10_unwind_228 : decode cX10_unwind 228 = .ok (.invokevirtual 209, 3) := by decide +kernel
theorem dX10_unwind_231 : decode cX10_unwind 231 = .ok (.return_, 1) := by decide +kernel
theorem dX10_run_0 : decode cX10_run 0 = .ok (.aload_n 0, 1) := by decide +kernel
theorem dX10_run_1 : decode cX10_run 1 = .ok (.iload_n 1, 1) := by decide +kernel
theorem dX10_run_2 : decode cX10_run 2 = .ok (.invokevirtual 144, 3) := by decide +kernel
theorem dX10_run_5 : decode cX10_run 5 = .ok (.ifCond .ne 6, 3) := by decide +kernel
theorem dX10_run_8 : decode cX10_run 8 = .ok (.bipush (-2), 2) := by decide +kernel
theorem dX10_run_10 : decode cX10_run 10 = .ok (.ireturn, 1) := by decide +kernel
theorem dX10_run_11 : decode cX10_run 11 = .ok (.iconst 0, 1) := by decide +kernel
theorem dX10_run_12 : decode cX10_run 12 = .ok (.istore_n 2, 1) := by decide +kernel
theorem dX10_run_13 : decode cX10_run 13 = .ok (.iload_n 2, 1) := by decide +kernel
theorem dX10_run_14 : decode cX10_run 14 = .ok (.bipush 6, 2) := by decide +kernel
theorem dX10_run_16 : decode cX10_run 16 = .ok (.if_icmp .ge 23, 3) := by decide +kernel
theorem dX10_run_19 : decode cX10_run 19 = .ok (.aload_n 0, 1) := by decide +kernel
theorem dX10_run_20 : decode cX10_run 20 = .ok (.getfield 45, 3) := by decide +kernel
theorem dX10_run_23 : decode cX10_run 23 = .ok (.iload_n 2, 1) := by decide +kernel
theorem dX10_run_24 : decode cX10_run 24 = .ok (.iconst 0, 1) := by decide +kernel
theorem dX10_run_25 : decode cX10_run 25 = .ok (.iastore, 1) := by decide +kernel
theorem dX10_run_26 : decode cX10_run 26 = .ok (.aload_n 0, 1) := by decide +kernel
theorem dX10_run_27 : decode cX10_run 27 = .ok (.getfield 42, 3) := by decide +kernel
theorem dX10_run_30 : decode cX10_run 30 = .ok (.iload_n 2, 1) := by decide +kernel
theorem dX10_run_31 : decode cX10_run 31 = .ok (.iconst 0, 1) := by decide +kernel
theorem dX10_run_32 : decode cX10_run 32 = .ok (.iastore, 1) := by decide +kernel
theorem dX10_run_33 : decode cX10_run 33 = .ok (.iinc 2 1, 3) := by decide +kernel
theorem dX10_run_36 : decode cX10_run 36 = .ok (.goto (-23), 3) := by decide +kernel
theorem dX10_run_39 : decode cX10_run 39 = .ok (.aload_n 0, 1) := by decide +kernel
theorem dX10_run_40 : decode cX10_run 40 = .ok (.iconst 0, 1) := by decide +kernel
theorem dX10_run_41 : decode cX10_run 41 = .ok (.putfield 155, 3) := by decide +kernel
theorem dX10_run_44 : decode cX10_run 44 = .ok (.aload_n 0, 1) := by decide +kernel
theorem dX10_run_45 : decode cX10_run 45 = .ok (.iconst 0, 1) := by decide +kernel
theorem dX10_run_46 : decode cX10_run 46 = .ok (.putfield 269, 3) := by decide +kernel
theorem dX10_run_49 : decode cX10_run 49 = .ok (.aload_n 0, 1) := by decide +kernel
theorem dX10_run_50 : decode cX10_run 50 = .ok (.iconst 0, 1) := by decide +kernel
theorem dX10_run_51 : decode cX10_run 51 = .ok (.putfield 158, 3) := by decide +kernel
theorem dX10_run_54 : decode cX10_run 54 = .ok (.aload_n 0, 1) := by decide +kernel
theorem dX10_run_55 : decode cX10_run 55 = .ok (.iconst 0, 1) := by decide +kernel
theorem dX10_run_56 : decode cX10_run 56 = .ok (.putfield 200, 3) := by decide +kernel
theorem dX10_run_59 : decode cX10_run 59 = .ok (.aload_n 0, 1) := by decide +kernel
theorem dX10_run_60 : decode cX10_run 60 = .ok (.iconst 0, 1) := by decide +kernel
theorem dX10_run_61 : decode cX10_run 61 = .ok (.putfield 191, 3) := by decide +kernel
theorem dX10_run_64 : decode cX10_run 64 = .ok (.aload_n 0, 1) := by decide +kernel
theorem dX10_run_65 : decode cX10_run 65 = .ok (.iconst 0, 1) := by decide +kernel
theorem dX10_run_66 : decode cX10_run 66 = .ok (.putfield 188, 3) := by decide +kernel
theorem dX10_run_69 : decode cX10_run 69 = .ok (.aload_n 0, 1) := by decide +kernel
theorem dX10_run_70 : decode cX10_run 70 = .ok (.iload_n 1, 1) := by decide +kernel
theorem dX10_run_71 : decode cX10_run 71 = .ok (.invokevirtual 209, 3) := by decide +kernel
theorem dX10_run_74 : decode cX10_run 74 = .ok (.aload_n 0, 1) := by decide +kernel
theorem dX10_run_75 : decode cX10_run 75 = .ok (.invokevirtual 281, 3) := by decide +kernel
theorem dX10_run_78 : decode cX10_run 78 = .ok (.aload_n 0, 1) := by decide +kernel
theorem dX10_run_79 : decode cX10_run 79 = .ok (.aload_n 0, 1) := by decide +kernel
theorem dX10_run_80 : decode cX10_run 80 = .ok (.getfield 191, 3) := by decide +kernel
theorem dX10_run_83 : decode cX10_run 83 = .ok (.iconst 1, 1) := by decide +kernel
theorem dX10_run_84 : decode cX10_run 84 = .ok (.if_icmp .ne 10, 3) := by decide +kernel
theorem dX10_run_87 : decode cX10_run 87 = .ok (.aload_n 0, 1) := by decide +kernel
theorem dX10_run_88 : decode cX10_run 88 = .ok (.getfield 197, 3) := by decide +kernel
theorem dX10_run_91 : decode cX10_run 91 = .ok (.goto 4, 3) := by decide +kernel
theorem dX10_run_94 : decode cX10_run 94 = .ok (.iconst (-1), 1) := by decide +kernel
theorem dX10_run_95 : decode cX10_run 95 = .ok (.putfield 96, 3) := by decide +kernel
theorem dX10_run_98 : decode cX10_run 98 = .ok (.aload_n 0, 1) := by decide +kernel
theorem dX10_run_99 : decode cX10_run 99 = .ok (.aload_n 0, 1) := by decide +kernel
theorem dX10_run_100 : decode cX10_run 100 = .ok (.getfield 191, 3) := by decide +kernel
theorem dX10_run_103 : decode cX10_run 103 = .ok (.ifCond .ne 10, 3) := by decide +kernel
theorem dX10_run_106 : decode cX10_run 106 = .ok (.aload_n 0, 1) := by decide +kernel
theorem dX10_run_107 : decode cX10_run 107 = .ok (.getfield 185, 3) := by decide +kernel
theorem dX10_run_110 : decode cX10_run 110 = .ok (.goto 19, 3) := by decide +kernel
theorem dX10_run_113 : decode cX10_run 113 = .ok (.aload_n 0, 1) := by decide +kernel
theorem dX10_run_114 : decode cX10_run 114 = .ok (.getfield 191, 3) := by decide +kernel
theorem dX10_run_117 : decode cX10_run 117 = .ok (.iconst 3, 1) := by decide +kernel
theorem dX10_run_118 : decode cX10_run 118 = .ok (.if_icmp .ne 7, 3) := by decide +kernel
theorem dX10_run_121 : decode cX10_run 121 = .ok (.iconst 0, 1) := by decide +kernel
theorem dX10_run_122 : decode cX10_run 122 = .ok (.goto 7, 3) := by decide +kernel
theorem dX10_run_125 : decode cX10_run 125 = .ok (.aload_n 0, 1) := by decide +kernel
theorem dX10_run_126 : decode cX10_run 126 = .ok (.getfield 194, 3) := by decide +kernel
theorem dX10_run_129 : decode cX10_run 129 = .ok (.putfield 284, 3) := by decide +kernel
theorem dX10_run_132 : decode cX10_run 132 = .ok (.aload_n 0, 1) := by decide +kernel
theorem dX10_run_133 : decode cX10_run 133 = .ok (.getfield 191, 3) := by decide +kernel
theorem dX10_run_136 : decode cX10_run 136 = .ok (.ifCond .ne 10, 3) := by decide +kernel
theorem dX10_run_139 : decode cX10_run 139 = .ok (.aload_n 0, 1) := by decide +kernel
theorem dX10_run_140 : decode cX10_run 140 = .ok (.getfield 182, 3) := by decide +kernel
theorem dX10_run_143 : decode cX10_run 143 = .ok (.goto 28, 3) := by decide +kernel
theorem dX10_run_146 : decode cX10_run 146 = .ok (.aload_n 0, 1) := by decide +kernel
theorem dX10_run_147 : decode cX10_run 147 = .ok (.getfield 191, 3) := by decide +kernel
theorem dX10_run_150 : decode cX10_run 150 = .ok (.iconst 1, 1) := by decide +kernel
theorem dX10_run_151 : decode cX10_run 151 = .ok (.if_icmp .ne 7, 3) := by decide +kernel
theorem dX10_run_154 : decode cX10_run 154 = .ok (.iconst 3, 1) := by decide +kernel
theorem dX10_run_155 : decode cX10_run 155 = .ok (.goto 16, 3) := by decide +kernel
theorem dX10_run_158 : decode cX10_run 158 = .ok (.aload_n 0, 1) := by decide +kernel
theorem dX10_run_159 : decode cX10_run 159 = .ok (.getfield 191, 3) := by decide +kernel
theorem dX10_run_162 : decode cX10_run 162 = .ok (.iconst 2, 1) := by decide +kernel
theorem dX10_run_163 : decode cX10_run 163 = .ok (.if_icmp .ne 7, 3) := by decide +kernel
theorem dX10_run_166 : decode cX10_run 166 = .ok (.iconst 4, 1) := by decide +kernel
theorem dX10_run_167 : decode cX10_run 167 = .ok (.goto 4, 3) := by decide +kernel
theorem dX10_run_170 : decode cX10_run 170 = .ok (.iconst 5, 1) := by decide +kernel
theorem dX10_run_171 : decode cX10_run 171 = .ok (.istore_n 2, 1) := by decide +kernel
theorem dX10_run_172 : decode cX10_run 172 = .ok (.iconst 0, 1) := by decide +kernel
theorem dX10_run_173 : decode cX10_run 173 = .ok (.istore_n 3, 1) := by decide +kernel
theorem dX10_run_174 : decode cX10_run 174 = .ok (.iload_n 3, 1) := by decide +kernel
theorem dX10_run_175 : decode cX10_run 175 = .ok (.aload_n 0, 1) := by decide +kernel
theorem dX10_run_176 : decode cX10_run 176 = .ok (.getfield 155, 3) := by decide +kernel
theorem dX10_run_179 : decode cX10_run 179 = .ok (.if_icmp .ge 21, 3) := by decide +kernel
theorem dX10_run_182 : decode cX10_run 182 = .ok (.aload_n 0, 1) := by decide +kernel
theorem dX10_run_183 : decode cX10_run 183 = .ok (.getfield 60, 3) := by decide +kernel
theorem dX10_run_186 : decode cX10_run 186 = .ok (.iload_n 3, 1) := by decide +kernel
theorem dX10_run_187 : decode cX10_run 187 = .ok (.aload_n 0, 1) := by decide +kernel
theorem dX10_run_188 : decode cX10_run 188 = .ok (.getfield 57, 3) := by decide +kernel
theorem dX10_run_191 : decode cX10_run 191 = .ok (.iload_n 3, 1) := by decide +kernel
theorem dX10_run_192 : decode cX10_run 192 = .ok (.iaload, 1) := by decide +kernel
theorem dX10_run_193 : decode cX10_run 193 = .ok (.iastore, 1) := by decide +kernel
theorem dX10_run_194 : decode cX10_run 194 = .ok (.iinc 3 1, 3) := by decide +kernel
theorem dX10_run_197 : decode cX10_run 197 = .ok (.goto (-23), 3) := by decide +kernel
theorem dX10_run_200 : decode cX10_run 200 = .ok (.iconst 0, 1) := by decide +kernel
theorem dX10_run_201 : decode cX10_run 201 = .ok (.istore_n 3, 1) := by decide +kernel
theorem dX10_run_202 : decode cX10_run 202 = .ok (.iload_n 3, 1) := by decide +kernel
theorem dX10_run_203 : decode cX10_run 203 = .ok (.aload_n 0, 1) := by decide +kernel
theorem dX10_run_204 : decode cX10_run 204 = .ok (.getfield 155, 3) := by decide +kernel
theorem dX10_run_207 : decode cX10_run 207 = .ok (.if_icmp .ge 40, 3) := by decide +kernel
theorem dX10_run_210 : decode cX10_run 210 = .ok (.aload_n 0, 1) := by decide +kernel
theorem dX10_run_211 : decode cX10_run 211 = .ok (.getfield 57, 3) := by decide +kernel
theorem dX10_run_214 : decode cX10_run 214 = .ok (.iload_n 3, 1) := by decide +kernel
theorem dX10_run_215 : decode cX10_run 215 = .ok (.iaload, 1) := by decide +kernel
theorem dX10_run_216 : decode cX10_run 216 = .ok (.ifCond .ne 11, 3) := by decide +kernel
theorem dX10_run_219 : decode cX10_run 219 = .ok (.aload_n 0, 1) := by decide +kernel
theorem dX10_run_220 : decode cX10_run 220 = .ok (.iload_n 3, 1) := by decide +kernel
theorem dX10_run_221 : decode cX10_run 221 = .ok (.invokevirtual 263, 3) := by decide +kernel
theorem dX10_run_224 : decode cX10_run 224 = .ok (.ifCond .eq 7, 3) := by decide +kernel
theorem dX10_run_227 : decode cX10_run 227 = .ok (.iconst 1, 1) := by decide +kernel
theorem dX10_run_228 : decode cX10_run 228 = .ok (.goto 4, 3) := by decide +kernel
theorem dX10_run_231 : decode cX10_run 231 = .ok (.iconst 0, 1) := by decide +kernel
theorem dX10_run_232 : decode cX10_run 232 = .ok (.istore 4, 2) := by decide +kernel
theorem dX10_run_234 : decode cX10_run 234 = .ok (.aload_n 0, 1) := by decide +kernel
theorem dX10_run_235 : decode cX10_run 235 = .ok (.getfield 57, 3) := by decide +kernel
theorem dX10_run_238 : decode cX10_run 238 = .ok (.iload_n 3, 1) := by decide +kernel
theorem dX10_run_239 : decode cX10_run 239 = .ok (.iconst 2, 1) := by decide +kernel
theorem dX10_run_240 : decode cX10_run 240 = .ok (.iastore, 1) := by decide +kernel
theorem dX10_run_241 : decode cX10_run 241 = .ok (.iinc 3 1, 3) := by decide +kernel
theorem dX10_run_244 : decode cX10_run 244 = .ok (.goto (-42), 3) := by decide +kernel
theorem dX10_run_247 : decode cX10_run 247 = .ok (.iload_n 2, 1) := by decide +kernel
theorem dX10_run_248 : decode cX10_run 248 = .ok (.ireturn, 1) := by decide +kernel
theorem dX10_value_0 : decode cX10_value 0 = .ok (.aload_n 0, 1) := by decide +kernel
theorem dX10_value_1 : decode cX10_value 1 = .ok (.getfield 284, 3) := by decide +kernel
theorem dX10_value_4 : decode cX10_value 4 = .ok (.ireturn, 1) := by decide +kernel
theorem dX10_where_0 : decode cX10_where 0 = .ok (.aload_n 0, 1) := by decide +kernel
theorem dX10_where_1 : decode cX10_where 1 = .ok (.getfield 96, 3) := by decide +kernel
theorem dX10_where_4 : decode cX10_where 4 = .ok (.ireturn, 1) := by decide +kernel
theorem dX10_worked_0 : decode cX10_worked 0 = .ok (.aload_n 0, 1) := by decide +kernel
theorem dX10_worked_1 : decode cX10_worked 1 = .ok (.getfield 200, 3) := by decide +kernel
theorem dX10_worked_4 : decode cX10_worked 4 = .ok (.ireturn, 1) := by decide +kernel
theorem dX10_order_0 : decode cX10_order 0 = .ok (.iload_n 1, 1) := by decide +kernel
theorem dX10_order_1 : decode cX10_order 1 = .ok (.iconst 0, 1) := by decide +kernel
theorem dX10_order_2 : decode cX10_order 2 = .ok (.aload_n 0, 1) := by decide +kernel
theorem dX10_order_3 : decode cX10_order 3 = .ok (.getfield 158, 3) := by decide +kernel
theorem dX10_order_6 : decode cX10_order 6 = .ok (.sipush 300, 3) := by decide +kernel
theorem dX10_order_9 : decode cX10_order 9 = .ok (.if_icmp .ge 10, 3) := by decide +kernel
theorem dX10_order_12 : decode cX10_order 12 = .ok (.aload_n 0, 1) := by decide +kernel
theorem dX10_order_13 : decode cX10_order 13 = .ok (.getfield 158, 3) := by decide +kernel
theorem dX10_order_16 : decode cX10_order 16 = .ok (.goto 6, 3) := by decide +kernel
theorem dX10_order_19 : decode cX10_order 19 = .ok (.sipush 300, 3) := by decide +kernel
theorem dX10_order_22 : decode cX10_order 22 = .ok (.iconst 1, 1) := by decide +kernel
theorem dX10_order_23 : decode cX10_order 23 = .ok (.isub, 1) := by decide +kernel
theorem dX10_order_24 : decode cX10_order 24 = .ok (.invokestatic 127, 3) := by decide +kernel
theorem dX10_order_27 : decode cX10_order 27 = .ok (.ifCond .eq 12, 3) := by decide +kernel
theorem dX10_order_30 : decode cX10_order 30 = .ok (.aload_n 0, 1) := by decide +kernel
theorem dX10_order_31 : decode cX10_order 31 = .ok (.getfield 93, 3) := by decide +kernel
theorem dX10_order_34 : decode cX10_order 34 = .ok (.iload_n 1, 1) := by decide +kernel
theorem dX10_order_35 : decode cX10_order 35 = .ok (.iaload, 1) := by decide +kernel
theorem dX10_order_36 : decode cX10_order 36 = .ok (.goto 4, 3) := by decide +kernel
theorem dX10_order_39 : decode cX10_order 39 = .ok (.iconst (-1), 1) := by decide +kernel
theorem dX10_order_40 : decode cX10_order 40 = .ok (.ireturn, 1) := by decide +kernel
theorem dX10_handle_0 : decode cX10_handle 0 = .ok (.iload_n 1, 1) := by decide +kernel
theorem dX10_handle_1 : decode cX10_handle 1 = .ok (.iconst 0, 1) := by decide +kernel
theorem dX10_handle_2 : decode cX10_handle 2 = .ok (.aload_n 0, 1) := by decide +kernel
theorem dX10_handle_3 : decode cX10_handle 3 = .ok (.getfield 155, 3) := by decide +kernel
theorem dX10_handle_6 : decode cX10_handle 6 = .ok (.iconst 1, 1) := by decide +kernel
theorem dX10_handle_7 : decode cX10_handle 7 = .ok (.isub, 1) := by decide +kernel
theorem dX10_handle_8 : decode cX10_handle 8 = .ok (.invokestatic 127, 3) := by decide +kernel
theorem dX10_handle_11 : decode cX10_handle 11 = .ok (.ifCond .ne 5, 3) := by decide +kernel
theorem dX10_handle_14 : decode cX10_handle 14 = .ok (.iconst (-1), 1) := by decide +kernel
theorem dX10_handle_15 : decode cX10_handle 15 = .ok (.ireturn, 1) := by decide +kernel
theorem dX10_handle_16 : decode cX10_handle 16 = .ok (.iload_n 2, 1) := by decide +kernel
theorem dX10_handle_17 : decode cX10_handle 17 = .ok (.tableswitch 81 0 5 #[39, 46, 53, 60, 67, 74], 39) := by decide +kernel
theorem dX10_handle_56 : decode cX10_handle 56 = .ok (.aload_n 0, 1) := by decide +kernel
theorem dX10_handle_57 : decode cX10_handle 57 = .ok (.getfield 48, 3) := by decide +kernel
theorem dX10_handle_60 : decode cX10_handle 60 = .ok (.iload_n 1, 1) := by decide +kernel
theorem dX10_handle_61 : decode cX10_handle 61 = .ok (.iaload, 1) := by decide +kernel
theorem dX10_handle_62 : decode cX10_handle 62 = .ok (.ireturn, 1) := by decide +kernel
theorem dX10_handle_63 : decode cX10_handle 63 = .ok (.aload_n 0, 1) := by decide +kernel
theorem dX10_handle_64 : decode cX10_handle 64 = .ok (.getfield 51, 3) := by decide +kernel
theorem dX10_handle_67 : decode cX10_handle 67 = .ok (.iload_n 1, 1) := by decide +kernel
theorem dX10_handle_68 : decode cX10_handle 68 = .ok (.iaload, 1) := by decide +kernel
theorem dX10_handle_69 : decode cX10_handle 69 = .ok (.ireturn, 1) := by decide +kernel
theorem dX10_handle_70 : decode cX10_handle 70 = .ok (.aload_n 0, 1) := by decide +kernel
theorem dX10_handle_71 : decode cX10_handle 71 = .ok (.getfield 60, 3) := by decide +kernel
theorem dX10_handle_74 : decode cX10_handle 74 = .ok (.iload_n 1, 1) := by decide +kernel
theorem dX10_handle_75 : decode cX10_handle 75 = .ok (.iaload, 1) := by decide +kernel
theorem dX10_handle_76 : decode cX10_handle 76 = .ok (.ireturn, 1) := by decide +kernel
theorem dX10_handle_77 : decode cX10_handle 77 = .ok (.aload_n 0, 1) := by decide +kernel
theorem dX10_handle_78 : decode cX10_handle 78 = .ok (.getfield 72, 3) := by decide +kernel
theorem dX10_handle_81 : decode cX10_handle 81 = .ok (.iload_n 1, 1) := by decide +kernel
theorem dX10_handle_82 : decode cX10_handle 82 = .ok (.iaload, 1) := by decide +kernel
theorem dX10_handle_83 : decode cX10_handle 83 = .ok (.ireturn, 1) := by decide +kernel
theorem dX10_handle_84 : decode cX10_handle 84 = .ok (.aload_n 0, 1) := by decide +kernel
theorem dX10_handle_85 : decode cX10_handle 85 = .ok (.getfield 75, 3) := by decide +kernel
theorem dX10_handle_88 : decode cX10_handle 88 = .ok (.iload_n 1, 1) := by decide +kernel
theorem dX10_handle_89 : decode cX10_handle 89 = .ok (.iaload, 1) := by decide +kernel
theorem dX10_handle_90 : decode cX10_handle 90 = .ok (.ireturn, 1) := by decide +kernel
theorem dX10_handle_91 : decode cX10_handle 91 = .ok (.aload_n 0, 1) := by decide +kernel
theorem dX10_handle_92 : decode cX10_handle 92 = .ok (.getfield 78, 3) := by decide +kernel
theorem dX10_handle_95 : decode cX10_handle 95 = .ok (.iload_n 1, 1) := by decide +kernel
theorem dX10_handle_96 : decode cX10_handle 96 = .ok (.iaload, 1) := by decide +kernel
theorem dX10_handle_97 : decode cX10_handle 97 = .ok (.ireturn, 1) := by decide +kernel
theorem dX10_handle_98 : decode cX10_handle 98 = .ok (.bipush (-2), 2) := by decide +kernel
theorem dX10_handle_100 : decode cX10_handle 100 = .ok (.ireturn, 1) := by decide +kernel
theorem dX10_content_0 : decode cX10_content 0 = .ok (.iload_n 1, 1) := by decide +kernel
theorem dX10_content_1 : decode cX10_content 1 = .ok (.iconst 0, 1) := by decide +kernel
theorem dX10_content_2 : decode cX10_content 2 = .ok (.bipush 7, 2) := by decide +kernel
theorem dX10_content_4 : decode cX10_content 4 = .ok (.invokestatic 127, 3) := by decide +kernel
theorem dX10_content_7 : decode cX10_content 7 = .ok (.ifCond .ne 6, 3) := by decide +kernel
theorem dX10_content_10 : decode cX10_content 10 = .ok (.bipush (-2), 2) := by decide +kernel
theorem dX10_content_12 : decode cX10_content 12 = .ok (.ireturn, 1) := by decide +kernel
theorem dX10_content_13 : decode cX10_content 13 = .ok (.aload_n 0, 1) := by decide +kernel
theorem dX10_content_14 : decode cX10_content 14 = .ok (.getfield 7, 3) := by decide +kernel
theorem dX10_content_17 : decode cX10_content 17 = .ok (.iload_n 1, 1) := by decide +kernel
theorem dX10_content_18 : decode cX10_content 18 = .ok (.baload, 1) := by decide +kernel
theorem dX10_content_19 : decode cX10_content 19 = .ok (.ifCond .eq 37, 3) := by decide +kernel
theorem dX10_content_22 : decode cX10_content 22 = .ok (.iload_n 2, 1) := by decide +kernel
theorem dX10_content_23 : decode cX10_content 23 = .ok (.iconst 0, 1) := by decide +kernel
theorem dX10_content_24 : decode cX10_content 24 = .ok (.aload_n 0, 1) := by decide +kernel
theorem dX10_content_25 : decode cX10_content 25 = .ok (.getfield 13, 3) := by decide +kernel
theorem dX10_content_28 : decode cX10_content 28 = .ok (.iload_n 1, 1) := by decide +kernel
theorem dX10_content_29 : decode cX10_content 29 = .ok (.iaload, 1) := by decide +kernel
theorem dX10_content_30 : decode cX10_content 30 = .ok (.iconst 1, 1) := by decide +kernel
theorem dX10_content_31 : decode cX10_content 31 = .ok (.isub, 1) := by decide +kernel
theorem dX10_content_32 : decode cX10_content 32 = .ok (.invokestatic 127, 3) := by decide +kernel
theorem dX10_content_35 : decode cX10_content 35 = .ok (.ifCond .eq 21, 3) := by decide +kernel
theorem dX10_content_38 : decode cX10_content 38 = .ok (.aload_n 0, 1) := by decide +kernel
theorem dX10_content_39 : decode cX10_content 39 = .ok (.getfield 17, 3) := by decide +kernel
theorem dX10_content_42 : decode cX10_content 42 = .ok (.bipush 40, 2) := by decide +kernel
theorem dX10_content_44 : decode cX10_content 44 = .ok (.iload_n 1, 1) := by decide +kernel
theorem dX10_content_45 : decode cX10_content 45 = .ok (.imul, 1) := by decide +kernel
theorem dX10_content_46 : decode cX10_content 46 = .ok (.iload_n 2, 1) := by decide +kernel
theorem dX10_content_47 : decode cX10_content 47 = .ok (.iadd, 1) := by decide +kernel
theorem dX10_content_48 : decode cX10_content 48 = .ok (.baload, 1) := by decide +kernel
theorem dX10_content_49 : decode cX10_content 49 = .ok (.sipush 255, 3) := by decide +kernel
theorem dX10_content_52 : decode cX10_content 52 = .ok (.iand, 1) := by decide +kernel
theorem dX10_content_53 : decode cX10_content 53 = .ok (.goto 4, 3) := by decide +kernel
theorem dX10_content_56 : decode cX10_content 56 = .ok (.iconst (-1), 1) := by decide +kernel
theorem dX10_content_57 : decode cX10_content 57 = .ok (.ireturn, 1) := by decide +kernel
theorem dX10_size_0 : decode cX10_size 0 = .ok (.iload_n 1, 1) := by decide +kernel
theorem dX10_size_1 : decode cX10_size 1 = .ok (.iconst 0, 1) := by decide +kernel
theorem dX10_size_2 : decode cX10_size 2 = .ok (.bipush 7, 2) := by decide +kernel
theorem dX10_size_4 : decode cX10_size 4 = .ok (.invokestatic 127, 3) := by decide +kernel
theorem dX10_size_7 : decode cX10_size 7 = .ok (.ifCond .ne 6, 3) := by decide +kernel
theorem dX10_size_10 : decode cX10_size 10 = .ok (.bipush (-2), 2) := by decide +kernel
theorem dX10_size_12 : decode cX10_size 12 = .ok (.ireturn, 1) := by decide +kernel
theorem dX10_size_13 : decode cX10_size 13 = .ok (.aload_n 0, 1) := by decide +kernel
theorem dX10_size_14 : decode cX10_size 14 = .ok (.getfield 7, 3) := by decide +kernel
theorem dX10_size_17 : decode cX10_size 17 = .ok (.iload_n 1, 1) := by decide +kernel
theorem dX10_size_18 : decode cX10_size 18 = .ok (.baload, 1) := by decide +kernel
theorem dX10_size_19 : decode cX10_size 19 = .ok (.ifCond .eq 12, 3) := by decide +kernel
theorem dX10_size_22 : decode cX10_size 22 = .ok (.aload_n 0, 1) := by decide +kernel
theorem dX10_size_23 : decode cX10_size 23 = .ok (.getfield 13, 3) := by decide +kernel
theorem dX10_size_26 : decode cX10_size 26 = .ok (.iload_n 1, 1) := by decide +kernel
theorem dX10_size_27 : decode cX10_size 27 = .ok (.iaload, 1) := by decide +kernel
theorem dX10_size_28 : decode cX10_size 28 = .ok (.goto 4, 3) := by decide +kernel
theorem dX10_size_31 : decode cX10_size 31 = .ok (.iconst (-1), 1) := by decide +kernel
theorem dX10_size_32 : decode cX10_size 32 = .ok (.ireturn, 1) := by decide +kernel
theorem dX10_printed_0 : decode cX10_printed 0 = .ok (.iload_n 1, 1) := by decide +kernel
theorem dX10_printed_1 : decode cX10_printed 1 = .ok (.iconst 0, 1) := by decide +kernel
theorem dX10_printed_2 : decode cX10_printed 2 = .ok (.aload_n 0, 1) := by decide +kernel
theorem dX10_printed_3 : decode cX10_printed 3 = .ok (.getfield 152, 3) := by decide +kernel
theorem dX10_printed_6 : decode cX10_printed 6 = .ok (.sipush 200, 3) := by decide +kernel
theorem dX10_printed_9 : decode cX10_printed 9 = .ok (.if_icmp .ge 10, 3) := by decide +kernel
theorem dX10_printed_12 : decode cX10_printed 12 = .ok (.aload_n 0, 1) := by decide +kernel
theorem dX10_printed_13 : decode cX10_printed 13 = .ok (.getfield 152, 3) := by decide +kernel
theorem dX10_printed_16 : decode cX10_printed 16 = .ok (.goto 6, 3) := by decide +kernel
theorem dX10_printed_19 : decode cX10_printed 19 = .ok (.sipush 200, 3) := by decide +kernel
theorem dX10_printed_22 : decode cX10_printed 22 = .ok (.iconst 1, 1) := by decide +kernel
theorem dX10_printed_23 : decode cX10_printed 23 = .ok (.isub, 1) := by decide +kernel
theorem dX10_printed_24 : decode cX10_printed 24 = .ok (.invokestatic 127, 3) := by decide +kernel
theorem dX10_printed_27 : decode cX10_printed 27 = .ok (.ifCond .eq 16, 3) := by decide +kernel
theorem dX10_printed_30 : decode cX10_printed 30 = .ok (.aload_n 0, 1) := by decide +kernel
theorem dX10_printed_31 : decode cX10_printed 31 = .ok (.getfield 27, 3) := by decide +kernel
theorem dX10_printed_34 : decode cX10_printed 34 = .ok (.iload_n 1, 1) := by decide +kernel
theorem dX10_printed_35 : decode cX10_printed 35 = .ok (.baload, 1) := by decide +kernel
theorem dX10_printed_36 : decode cX10_printed 36 = .ok (.sipush 255, 3) := by decide +kernel
theorem dX10_printed_39 : decode cX10_printed 39 = .ok (.iand, 1) := by decide +kernel
theorem dX10_printed_40 : decode cX10_printed 40 = .ok (.goto 4, 3) := by decide +kernel
theorem dX10_printed_43 : decode cX10_printed 43 = .ok (.iconst (-1), 1) := by decide +kernel
theorem dX10_printed_44 : decode cX10_printed 44 = .ok (.ireturn, 1) := by decide +kernel
theorem dX10_told_0 : decode cX10_told 0 = .ok (.iload_n 1, 1) := by decide +kernel
theorem dX10_told_1 : decode cX10_told 1 = .ok (.tableswitch 83 0 6 #[43, 48, 58, 63, 68, 73, 78], 43) := by decide +kernel
theorem dX10_told_44 : decode cX10_told 44 = .ok (.aload_n 0, 1) := by decide +kernel
theorem dX10_told_45 : decode cX10_told 45 = .ok (.getfield 141, 3) := by decide +kernel
theorem dX10_told_48 : decode cX10_told 48 = .ok (.ireturn, 1) := by decide +kernel
theorem dX10_told_49 : decode cX10_told 49 = .ok (.aload_n 0, 1) := by decide +kernel
theorem dX10_told_50 : decode cX10_told 50 = .ok (.getfield 135, 3) := by decide +kernel
theorem dX10_told_53 : decode cX10_told 53 = .ok (.aload_n 0, 1) := by decide +kernel
theorem dX10_told_54 : decode cX10_told 54 = .ok (.getfield 138, 3) := by decide +kernel
theorem dX10_told_57 : decode cX10_told 57 = .ok (.isub, 1) := by decide +kernel
theorem dX10_told_58 : decode cX10_told 58 = .ok (.ireturn, 1) := by decide +kernel
theorem dX10_told_59 : decode cX10_told 59 = .ok (.aload_n 0, 1) := by decide +kernel
theorem dX10_told_60 : decode cX10_told 60 = .ok (.getfield 152, 3) := by decide +kernel
theorem dX10_told_63 : decode cX10_told 63 = .ok (.ireturn, 1) := by decide +kernel
theorem dX10_told_64 : decode cX10_told 64 = .ok (.aload_n 0, 1) := by decide +kernel
theorem dX10_told_65 : decode cX10_told 65 = .ok (.invokevirtual 131, 3) := by decide +kernel
theorem dX10_told_68 : decode cX10_told 68 = .ok (.ireturn, 1) := by decide +kernel
theorem dX10_told_69 : decode cX10_told 69 = .ok (.aload_n 0, 1) := by decide +kernel
theorem dX10_told_70 : decode cX10_told 70 = .ok (.getfield 155, 3) := by decide +kernel
theorem dX10_told_73 : decode cX10_told 73 = .ok (.ireturn, 1) := by decide +kernel
theorem dX10_told_74 : decode cX10_told 74 = .ok (.aload_n 0, 1) := by decide +kernel
theorem dX10_told_75 : decode cX10_told 75 = .ok (.getfield 269, 3) := by decide +kernel
theorem dX10_told_78 : decode cX10_told 78 = .ok (.ireturn, 1) := by decide +kernel
theorem dX10_told_79 : decode cX10_told 79 = .ok (.aload_n 0, 1) := by decide +kernel
theorem dX10_told_80 : decode cX10_told 80 = .ok (.getfield 158, 3) := by decide +kernel
theorem dX10_told_83 : decode cX10_told 83 = .ok (.ireturn, 1) := by decide +kernel
theorem dX10_told_84 : decode cX10_told 84 = .ok (.bipush (-2), 2) := by decide +kernel
theorem dX10_told_86 : decode cX10_told 86 = .ok (.ireturn, 1) := by decide +kernel
theorem dJ9_min_7cf53_0 : decode cJ9_min_7cf53 0 = .ok (.iload_n 0, 1) := by decide +kernel
theorem dJ9_min_7cf53_1 : decode cJ9_min_7cf53 1 = .ok (.iload_n 1, 1) := by decide +kernel
theorem dJ9_min_7cf53_2 : decode cJ9_min_7cf53 2 = .ok (.if_icmp .gt 7, 3) := by decide +kernel
theorem dJ9_min_7cf53_5 : decode cJ9_min_7cf53 5 = .ok (.iload_n 0, 1) := by decide +kernel
theorem dJ9_min_7cf53_6 : decode cJ9_min_7cf53 6 = .ok (.goto 4, 3) := by decide +kernel
theorem dJ9_min_7cf53_9 : decode cJ9_min_7cf53 9 = .ok (.iload_n 1, 1) := by decide +kernel
theorem dJ9_min_7cf53_10 : decode cJ9_min_7cf53 10 = .ok (.ireturn, 1) := by decide +kernel
theorem dJ7_fill_53178_0 : decode cJ7_fill_53178 0 = .ok (.iconst 0, 1) := by decide +kernel
theorem dJ7_fill_53178_1 : decode cJ7_fill_53178 1 = .ok (.istore_n 2, 1) := by decide +kernel
theorem dJ7_fill_53178_2 : decode cJ7_fill_53178 2 = .ok (.aload_n 0, 1) := by decide +kernel
theorem dJ7_fill_53178_3 : decode cJ7_fill_53178 3 = .ok (.arraylength, 1) := by decide +kernel
theorem dJ7_fill_53178_4 : decode cJ7_fill_53178 4 = .ok (.istore_n 3, 1) := by decide +kernel
theorem dJ7_fill_53178_5 : decode cJ7_fill_53178 5 = .ok (.iload_n 2, 1) := by decide +kernel
theorem dJ7_fill_53178_6 : decode cJ7_fill_53178 6 = .ok (.iload_n 3, 1) := by decide +kernel
theorem dJ7_fill_53178_7 : decode cJ7_fill_53178 7 = .ok (.if_icmp .ge 13, 3) := by decide +kernel
theorem dJ7_fill_53178_10 : decode cJ7_fill_53178 10 = .ok (.aload_n 0, 1) := by decide +kernel
theorem dJ7_fill_53178_11 : decode cJ7_fill_53178 11 = .ok (.iload_n 2, 1) := by decide +kernel
theorem dJ7_fill_53178_12 : decode cJ7_fill_53178 12 = .ok (.iload_n 1, 1) := by decide +kernel
theorem dJ7_fill_53178_13 : decode cJ7_fill_53178 13 = .ok (.iastore, 1) := by decide +kernel
theorem dJ7_fill_53178_14 : decode cJ7_fill_53178 14 = .ok (.iinc 2 1, 3) := by decide +kernel
theorem dJ7_fill_53178_17 : decode cJ7_fill_53178 17 = .ok (.goto (-12), 3) := by decide +kernel
theorem dJ7_fill_53178_20 : decode cJ7_fill_53178 20 = .ok (.return_, 1) := by decide +kernel
theorem dL_law_0 : decode cL_law 0 = .ok (.new 7, 3) := by decide +kernel
theorem dL_law_3 : decode cL_law 3 = .ok (.dup, 1) := by decide +kernel
theorem dL_law_4 : decode cL_law 4 = .ok (.invokespecial 9, 3) := by decide +kernel
theorem dL_law_7 : decode cL_law 7 = .ok (.astore_n 1, 1) := by decide +kernel
theorem dL_law_8 : decode cL_law 8 = .ok (.new 10, 3) := by decide +kernel
theorem dL_law_11 : decode cL_law 11 = .ok (.dup, 1) := by decide +kernel
theorem dL_law_12 : decode cL_law 12 = .ok (.invokespecial 12, 3) := by decide +kernel
theorem dL_law_15 : decode cL_law 15 = .ok (.astore_n 2, 1) := by decide +kernel
theorem dL_law_16 : decode cL_law 16 = .ok (.iconst 0, 1) := by decide +kernel
theorem dL_law_17 : decode cL_law 17 = .ok (.istore_n 3, 1) := by decide +kernel
theorem dL_law_18 : decode cL_law 18 = .ok (.iload_n 3, 1) := by decide +kernel
theorem dL_law_19 : decode cL_law 19 = .ok (.aload_n 0, 1) := by decide +kernel
theorem dL_law_20 : decode cL_law 20 = .ok (.arraylength, 1) := by decide +kernel
theorem dL_law_21 : decode cL_law 21 = .ok (.iconst 5, 1) := by decide +kernel
theorem dL_law_22 : decode cL_law 22 = .ok (.isub, 1) := by decide +kernel
theorem dL_law_23 : decode cL_law 23 = .ok (.if_icmp .gt 519, 3) := by decide +kernel
theorem dL_law_26 : decode cL_law 26 = .ok (.aload_n 0, 1) := by decide +kernel
theorem dL_law_27 : decode cL_law 27 = .ok (.iload_n 3, 1) := by decide +kernel
theorem dL_law_28 : decode cL_law 28 = .ok (.iaload, 1) := by decide +kernel
theorem dL_law_29 : decode cL_law 29 = .ok (.bipush 15, 2) := by decide +kernel
theorem dL_law_31 : decode cL_law 31 = .ok (.iand, 1) := by decide +kernel
theorem dL_law_32 : decode cL_law 32 = .ok (.tableswitch 504 0 15 #[80, 113, 162, 195, 218, 271, 284, 307, 320, 333, 346, 369, 402, 435, 458, 481], 80) := by decide +kernel
theorem dL_law_112 : decode cL_law 112 = .ok (.aload_n 1, 1) := by decide +kernel
theorem dL_law_113 : decode cL_law 113 = .ok (.aload_n 0, 1) := by decide +kernel
theorem dL_law_114 : decode cL_law 114 = .ok (.iload_n 3, 1) := by decide +kernel
theorem dL_law_115 : decode cL_law 115 = .ok (.iconst 1, 1) := by decide +kernel
theorem dL_law_116 : decode cL_law 116 = .ok (.iadd, 1) := by decide +kernel
theorem dL_law_117 : decode cL_law 117 = .ok (.iaload, 1) := by decide +kernel
theorem dL_law_118 : decode cL_law 118 = .ok (.aload_n 0, 1) := by decide +kernel
theorem dL_law_119 : decode cL_law 119 = .ok (.iload_n 3, 1) := by decide +kernel
theorem dL_law_120 : decode cL_law 120 = .ok (.iconst 2, 1) := by decide +kernel
theorem dL_law_121 : decode cL_law 121 = .ok (.iadd, 1) := by decide +kernel
theorem dL_law_122 : decode cL_law 122 = .ok (.iaload, 1) := by decide +kernel
theorem dL_law_123 : decode cL_law 123 = .ok (.invokevirtual 13, 3) := by decide +kernel
theorem dL_law_126 : decode cL_law 126 = .ok (.pop, 1) := by decide +kernel
theorem dL_law_127 : decode cL_law 127 = .ok (.aload_n 2, 1) := by decide +kernel
theorem dL_law_128 : decode cL_law 128 = .ok (.aload_n 0, 1) := by decide +kernel
theorem dL_law_129 : decode cL_law 129 = .ok (.iload_n 3, 1) := by decide +kernel
theorem dL_law_130 : decode cL_law 130 = .ok (.iconst 1, 1) := by decide +kernel
theorem dL_law_131 : decode cL_law 131 = .ok (.iadd, 1) := by decide +kernel
theorem dL_law_132 : decode cL_law 132 = .ok (.iaload, 1) := by decide +kernel
theorem dL_law_133 : decode cL_law 133 = .ok (.aload_n 0, 1) := by decide +kernel
theorem dL_law_134 : decode cL_law 134 = .ok (.iload_n 3, 1) := by decide +kernel
theorem dL_law_135 : decode cL_law 135 = .ok (.iconst 2, 1) := by decide +kernel
theorem dL_law_136 : decode cL_law 136 = .ok (.iadd, 1) := by decide +kernel
theorem dL_law_137 : decode cL_law 137 = .ok (.iaload, 1) := by decide +kernel
theorem dL_law_138 : decode cL_law 138 = .ok (.invokevirtual 17, 3) := by decide +kernel
theorem dL_law_141 : decode cL_law 141 = .ok (.pop, 1) := by decide +kernel
theorem dL_law_142 : decode cL_law 142 = .ok (.goto 394, 3) := by decide +kernel
theorem dL_law_145 : decode cL_law 145 = .ok (.aload_n 1, 1) := by decide +kernel
theorem dL_law_146 : decode cL_law 146 = .ok (.aload_n 0, 1) := by decide +kernel
theorem dL_law_147 : decode cL_law 147 = .ok (.iload_n 3, 1) := by decide +kernel
theorem dL_law_148 : decode cL_law 148 = .ok (.iconst 1, 1) := by decide +kernel
theorem dL_law_149 : decode cL_law 149 = .ok (.iadd, 1) := by decide +kernel
theorem dL_law_150 : decode cL_law 150 = .ok (.iaload, 1) := by decide +kernel
theorem dL_law_151 : decode cL_law 151 = .ok (.aload_n 0, 1) := by decide +kernel
theorem dL_law_152 : decode cL_law 152 = .ok (.iload_n 3, 1) := by decide +kernel
theorem dL_law_153 : decode cL_law 153 = .ok (.iconst 2, 1) := by decide +kernel
theorem dL_law_154 : decode cL_law 154 = .ok (.iadd, 1) := by decide +kernel
theorem dL_law_155 : decode cL_law 155 = .ok (.iaload, 1) := by decide +kernel
theorem dL_law_156 : decode cL_law 156 = .ok (.ifCond .eq 7, 3) := by decide +kernel
theorem dL_law_159 : decode cL_law 159 = .ok (.iconst 1, 1) := by decide +kernel
theorem dL_law_160 : decode cL_law 160 = .ok (.goto 4, 3) := by decide +kernel
theorem dL_law_163 : decode cL_law 163 = .ok (.iconst 0, 1) := by decide +kernel
theorem dL_law_164 : decode cL_law 164 = .ok (.invokevirtual 18, 3) := by decide +kernel
theorem dL_law_167 : decode cL_law 167 = .ok (.pop, 1) := by decide +kernel
theorem dL_law_168 : decode cL_law 168 = .ok (.aload_n 2, 1) := by decide +kernel
theorem dL_law_169 : decode cL_law 169 = .ok (.aload_n 0, 1) := by decide +kernel
theorem dL_law_170 : decode cL_law 170 = .ok (.iload_n 3, 1) := by decide +kernel
theorem dL_law_171 : decode cL_law 171 = .ok (.iconst 1, 1) := by decide +kernel
theorem dL_law_172 : decode cL_law 172 = .ok (.iadd, 1) := by decide +kernel
theorem dL_law_173 : decode cL_law 173 = .ok (.iaload, 1) := by decide +kernel
theorem dL_law_174 : decode cL_law 174 = .ok (.aload_n 0, 1) := by decide +kernel
theorem dL_law_175 : decode cL_law 175 = .ok (.iload_n 3, 1) := by decide +kernel
theorem dL_law_176 : decode cL_law 176 = .ok (.iconst 2, 1) := by decide +kernel
theorem dL_law_177 : decode cL_law 177 = .ok (.iadd, 1) := by decide +kernel
theorem dL_law_178 : decode cL_law 178 = .ok (.iaload, 1) := by decide +kernel
theorem dL_law_179 : decode cL_law 179 = .ok (.ifCond .eq 7, 3) := by decide +kernel
theorem dL_law_182 : decode cL_law 182 = .ok (.iconst 1, 1) := by decide +kernel
theorem dL_law_183 : decode cL_law 183 = .ok (.goto 4, 3) := by decide +kernel
theorem dL_law_186 : decode cL_law 186 = .ok (.iconst 0, 1) := by decide +kernel
theorem dL_law_187 : decode cL_law 187 = .ok (.invokevirtual 22, 3) := by decide +kernel
theorem dL_law_190 : decode cL_law 190 = .ok (.pop, 1) := by decide +kernel
theorem dL_law_191 : decode cL_law 191 = .ok (.goto 345, 3) := by decide +kernel
theorem dL_law_194 : decode cL_law 194 = .ok (.aload_n 1, 1) := by decide +kernel
theorem dL_law_195 : decode cL_law 195 = .ok (.aload_n 0, 1) := by decide +kernel
theorem dL_law_196 : decode cL_law 196 = .ok (.iload_n 3, 1) := by decide +kernel
theorem dL_law_197 : decode cL_law 197 = .ok (.iconst 1, 1) := by decide +kernel
theorem dL_law_198 : decode cL_law 198 = .ok (.iadd, 1) := by decide +kernel
theorem dL_law_199 : decode cL_law 199 = .ok (.iaload, 1) := by decide +kernel
theorem dL_law_200 : decode cL_law 200 = .ok (.aload_n 0, 1) := by decide +kernel
theorem dL_law_201 : decode cL_law 201 = .ok (.iload_n 3, 1) := by decide +kernel
theorem dL_law_202 : decode cL_law 202 = .ok (.iconst 2, 1) := by decide +kernel
theorem dL_law_203 : decode cL_law 203 = .ok (.iadd, 1) := by decide +kernel
theorem dL_law_204 : decode cL_law 204 = .ok (.iaload, 1) := by decide +kernel
theorem dL_law_205 : decode cL_law 205 = .ok (.invokevirtual 23, 3) := by decide +kernel
theorem dL_law_208 : decode cL_law 208 = .ok (.pop, 1) := by decide +kernel
theorem dL_law_209 : decode cL_law 209 = .ok (.aload_n 2, 1) := by decide +kernel
theorem dL_law_210 : decode cL_law 210 = .ok (.aload_n 0, 1) := by decide +kernel
theorem dL_law_211 : decode cL_law 211 = .ok (.iload_n 3, 1) := by decide +kernel
theorem dL_law_212 : decode cL_law 212 = .ok (.iconst 1, 1) := by decide +kernel
theorem dL_law_213 : decode cL_law 213 = .ok (.iadd, 1) := by decide +kernel
theorem dL_law_214 : decode cL_law 214 = .ok (.iaload, 1) := by decide +kernel
theorem dL_law_215 : decode cL_law 215 = .ok (.aload_n 0, 1) := by decide +kernel
theorem dL_law_216 : decode cL_law 216 = .ok (.iload_n 3, 1) := by decide +kernel
theorem dL_law_217 : decode cL_law 217 = .ok (.iconst 2, 1) := by decide +kernel
theorem dL_law_218 : decode cL_law 218 = .ok (.iadd, 1) := by decide +kernel
theorem dL_law_219 : decode cL_law 219 = .ok (.iaload, 1) := by decide +kernel
theorem dL_law_220 : decode cL_law 220 = .ok (.invokevirtual 26, 3) := by decide +kernel
theorem dL_law_223 : decode cL_law 223 = .ok (.pop, 1) := by decide +kernel
theorem dL_law_224 : decode cL_law 224 = .ok (.goto 312, 3) := by decide +kernel
theorem dL_law_227 : decode cL_law 227 = .ok (.aload_n 1, 1) := by decide +kernel
theorem dL_law_228 : decode cL_law 228 = .ok (.aload_n 0, 1) := by decide +kernel
theorem dL_law_229 : decode cL_law 229 = .ok (.iload_n 3, 1) := by decide +kernel
theorem dL_law_230 : decode cL_law 230 = .ok (.iconst 1, 1) := by decide +kernel
theorem dL_law_231 : decode cL_law 231 = .ok (.iadd, 1) := by decide +kernel
theorem dL_law_232 : decode cL_law 232 = .ok (.iaload, 1) := by decide +kernel
theorem dL_law_233 : decode cL_law 233 = .ok (.invokevirtual 27, 3) := by decide +kernel
theorem dL_law_236 : decode cL_law 236 = .ok (.pop, 1) := by decide +kernel
theorem dL_law_237 : decode cL_law 237 = .ok (.aload_n 2, 1) := by decide +kernel
theorem dL_law_238 : decode cL_law 238 = .ok (.aload_n 0, 1) := by decide +kernel
theorem dL_law_239 : decode cL_law 239 = .ok (.iload_n 3, 1) := by decide +kernel
theorem dL_law_240 : decode cL_law 240 = .ok (.iconst 1, 1) := by decide +kernel
theorem dL_law_241 : decode cL_law 241 = .ok (.iadd, 1) := by decide +kernel
theorem dL_law_242 : decode cL_law 242 = .ok (.iaload, 1) := by decide +kernel
theorem dL_law_243 : decode cL_law 243 = .ok (.invokevirtual 31, 3) := by decide +kernel
theorem dL_law_246 : decode cL_law 246 = .ok (.pop, 1) := by decide +kernel
theorem dL_law_247 : decode cL_law 247 = .ok (.goto 289, 3) := by decide +kernel
theorem dL_law_250 : decode cL_law 250 = .ok (.aload_n 1, 1) := by decide +kernel
theorem dL_law_251 : decode cL_law 251 = .ok (.aload_n 0, 1) := by decide +kernel
theorem dL_law_252 : decode cL_law 252 = .ok (.iload_n 3, 1) := by decide +kernel
theorem dL_law_253 : decode cL_law 253 = .ok (.iconst 1, 1) := by decide +kernel
theorem dL_law_254 : decode cL_law 254 = .ok (.iadd, 1) := by decide +kernel
theorem dL_law_255 : decode cL_law 255 = .ok (.iaload, 1) := by decide +kernel
theorem dL_law_256 : decode cL_law 256 = .ok (.aload_n 0, 1) := by decide +kernel
theorem dL_law_257 : decode cL_law 257 = .ok (.iload_n 3, 1) := by decide +kernel
theorem dL_law_258 : decode cL_law 258 = .ok (.iconst 2, 1) := by decide +kernel
theorem dL_law_259 : decode cL_law 259 = .ok (.iadd, 1) := by decide +kernel
theorem dL_law_260 : decode cL_law 260 = .ok (.iaload, 1) := by decide +kernel
theorem dL_law_261 : decode cL_law 261 = .ok (.aload_n 0, 1) := by decide +kernel
theorem dL_law_262 : decode cL_law 262 = .ok (.iload_n 3, 1) := by decide +kernel
theorem dL_law_263 : decode cL_law 263 = .ok (.iconst 3, 1) := by decide +kernel
theorem dL_law_264 : decode cL_law 264 = .ok (.iadd, 1) := by decide +kernel
theorem dL_law_265 : decode cL_law 265 = .ok (.iaload, 1) := by decide +kernel
theorem dL_law_266 : decode cL_law 266 = .ok (.aload_n 0, 1) := by decide +kernel
theorem dL_law_267 : decode cL_law 267 = .ok (.iload_n 3, 1) := by decide +kernel
theorem dL_law_268 : decode cL_law 268 = .ok (.iconst 4, 1) := by decide +kernel
theorem dL_law_269 : decode cL_law 269 = .ok (.iadd, 1) := by decide +kernel
theorem dL_law_270 : decode cL_law 270 = .ok (.iaload, 1) := by decide +kernel
theorem dL_law_271 : decode cL_law 271 = .ok (.invokevirtual 32, 3) := by decide +kernel
theorem dL_law_274 : decode cL_law 274 = .ok (.pop, 1) := by decide +kernel
theorem dL_law_275 : decode cL_law 275 = .ok (.aload_n 2, 1) := by decide +kernel
theorem dL_law_276 : decode cL_law 276 = .ok (.aload_n 0, 1) := by decide +kernel
theorem dL_law_277 : decode cL_law 277 = .ok (.iload_n 3, 1) := by decide +kernel
theorem dL_law_278 : decode cL_law 278 = .ok (.iconst 1, 1) := by decide +kernel
theorem dL_law_279 : decode cL_law 279 = .ok (.iadd, 1) := by decide +kernel
theorem dL_law_280 : decode cL_law 280 = .ok (.iaload, 1) := by decide +kernel
theorem dL_law_281 : decode cL_law 281 = .ok (.aload_n 0, 1) := by decide +kernel
theorem dL_law_282 : decode cL_law 282 = .ok (.iload_n 3, 1) := by decide +kernel
theorem dL_law_283 : decode cL_law 283 = .ok (.iconst 2, 1) := by decide +kernel
theorem dL_law_284 : decode cL_law 284 = .ok (.iadd, 1) := by decide +kernel
theorem dL_law_285 : decode cL_law 285 = .ok (.iaload, 1) := by decide +kernel
theorem dL_law_286 : decode cL_law 286 = .ok (.aload_n 0, 1) := by decide +kernel
theorem dL_law_287 : decode cL_law 287 = .ok (.iload_n 3, 1) := by decide +kernel
theorem dL_law_288 : decode cL_law 288 = .ok (.iconst 3, 1) := by decide +kernel
theorem dL_law_289 : decode cL_law 289 = .ok (.iadd, 1) := by decide +kernel
theorem dL_law_290 : decode cL_law 290 = .ok (.iaload, 1) := by decide +kernel
theorem dL_law_291 : decode cL_law 291 = .ok (.aload_n 0, 1) := by decide +kernel
theorem dL_law_292 : decode cL_law 292 = .ok (.iload_n 3, 1) := by decide +kernel
theorem dL_law_293 : decode cL_law 293 = .ok (.iconst 4, 1) := by decide +kernel
theorem dL_law_294 : decode cL_law 294 = .ok (.iadd, 1) := by decide +kernel
theorem dL_law_295 : decode cL_law 295 = .ok (.iaload, 1) := by decide +kernel
theorem dL_law_296 : decode cL_law 296 = .ok (.invokevirtual 36, 3) := by decide +kernel
theorem dL_law_299 : decode cL_law 299 = .ok (.pop, 1) := by decide +kernel
theorem dL_law_300 : decode cL_law 300 = .ok (.goto 236, 3) := by decide +kernel
theorem dL_law_303 : decode cL_law 303 = .ok (.aload_n 1, 1) := by decide +kernel
theorem dL_law_304 : decode cL_law 304 = .ok (.invokevirtual 37, 3) := by decide +kernel
theorem dL_law_307 : decode cL_law 307 = .ok (.pop, 1) := by decide +kernel
theorem dL_law_308 : decode cL_law 308 = .ok (.aload_n 2, 1) := by decide +kernel
theorem dL_law_309 : decode cL_law 309 = .ok (.invokevirtual 41, 3) := by decide +kernel
theorem dL_law_312 : decode cL_law 312 = .ok (.pop, 1) := by decide +kernel
theorem dL_law_313 : decode cL_law 313 = .ok (.goto 223, 3) := by decide +kernel
theorem dL_law_316 : decode cL_law 316 = .ok (.aload_n 1, 1) := by decide +kernel
theorem dL_law_317 : decode cL_law 317 = .ok (.aload_n 0, 1) := by decide +kernel
theorem dL_law_318 : decode cL_law 318 = .ok (.iload_n 3, 1) := by decide +kernel
theorem dL_law_319 : decode cL_law 319 = .ok (.iconst 1, 1) := by decide +kernel
theorem dL_law_320 : decode cL_law 320 = .ok (.iadd, 1) := by decide +kernel
theorem dL_law_321 : decode cL_law 321 = .ok (.iaload, 1) := by decide +kernel
theorem dL_law_322 : decode cL_law 322 = .ok (.invokevirtual 42, 3) := by decide +kernel
theorem dL_law_325 : decode cL_law 325 = .ok (.pop, 1) := by decide +kernel
theorem dL_law_326 : decode cL_law 326 = .ok (.aload_n 2, 1) := by decide +kernel
theorem dL_law_327 : decode cL_law 327 = .ok (.aload_n 0, 1) := by decide +kernel
theorem dL_law_328 : decode cL_law 328 = .ok (.iload_n 3, 1) := by decide +kernel
theorem dL_law_329 : decode cL_law 329 = .ok (.iconst 1, 1) := by decide +kernel
theorem dL_law_330 : decode cL_law 330 = .ok (.iadd, 1) := by decide +kernel
theorem dL_law_331 : decode cL_law 331 = .ok (.iaload, 1) := by decide +kernel
theorem dL_law_332 : decode cL_law 332 = .ok (.invokevirtual 45, 3) := by decide +kernel
theorem dL_law_335 : decode cL_law 335 = .ok (.pop, 1) := by decide +kernel
theorem dL_law_336 : decode cL_law 336 = .ok (.goto 200, 3) := by decide +kernel
theorem dL_law_339 : decode cL_law 339 = .ok (.aload_n 1, 1) := by decide +kernel
theorem dL_law_340 : decode cL_law 340 = .ok (.invokevirtual 46, 3) := by decide +kernel
theorem dL_law_343 : decode cL_law 343 = .ok (.pop, 1) := by decide +kernel
theorem dL_law_344 : decode cL_law 344 = .ok (.aload_n 2, 1) := by decide +kernel
theorem dL_law_345 : decode cL_law 345 = .ok (.invokevirtual 49, 3) := by decide +kernel
theorem dL_law_348 : decode cL_law 348 = .ok (.pop, 1) := by decide +kernel
theorem dL_law_349 : decode cL_law 349 = .ok (.goto 187, 3) := by decide +kernel
theorem dL_law_352 : decode cL_law 352 = .ok (.aload_n 1, 1) := by decide +kernel
theorem dL_law_353 : decode cL_law 353 = .ok (.invokevirtual 50, 3) := by decide +kernel
theorem dL_law_356 : decode cL_law 356 = .ok (.pop, 1) := by decide +kernel
theorem dL_law_357 : decode cL_law 357 = .ok (.aload_n 2, 1) := by decide +kernel
theorem dL_law_358 : decode cL_law 358 = .ok (.invokevirtual 53, 3) := by decide +kernel
theorem dL_law_361 : decode cL_law 361 = .ok (.pop, 1) := by decide +kernel
theorem dL_law_362 : decode cL_law 362 = .ok (.goto 174, 3) := by decide +kernel
theorem dL_law_365 : decode cL_law 365 = .ok (.aload_n 1, 1) := by decide +kernel
theorem dL_law_366 : decode cL_law 366 = .ok (.invokevirtual 54, 3) := by decide +kernel
theorem dL_law_369 : decode cL_law 369 = .ok (.pop, 1) := by decide +kernel
theorem dL_law_370 : decode cL_law 370 = .ok (.aload_n 2, 1) := by decide +kernel
theorem dL_law_371 : decode cL_law 371 = .ok (.invokevirtual 57, 3) := by decide +kernel
theorem dL_law_374 : decode cL_law 374 = .ok (.pop, 1) := by decide +kernel
theorem dL_law_375 : decode cL_law 375 = .ok (.goto 161, 3) := by decide +kernel
theorem dL_law_378 : decode cL_law 378 = .ok (.aload_n 1, 1) := by decide +kernel
theorem dL_law_379 : decode cL_law 379 = .ok (.aload_n 0, 1) := by decide +kernel
theorem dL_law_380 : decode cL_law 380 = .ok (.iload_n 3, 1) := by decide +kernel
theorem dL_law_381 : decode cL_law 381 = .ok (.iconst 1, 1) := by decide +kernel
theorem dL_law_382 : decode cL_law 382 = .ok (.iadd, 1) := by decide +kernel
theorem dL_law_383 : decode cL_law 383 = .ok (.iaload, 1) := by decide +kernel
theorem dL_law_384 : decode cL_law 384 = .ok (.invokevirtual 58, 3) := by decide +kernel
theorem dL_law_387 : decode cL_law 387 = .ok (.pop, 1) := by decide +kernel
theorem dL_law_388 : decode cL_law 388 = .ok (.aload_n 2, 1) := by decide +kernel
theorem dL_law_389 : decode cL_law 389 = .ok (.aload_n 0, 1) := by decide +kernel
theorem dL_law_390 : decode cL_law 390 = .ok (.iload_n 3, 1) := by decide +kernel
theorem dL_law_391 : decode cL_law 391 = .ok (.iconst 1, 1) := by decide +kernel
theorem dL_law_392 : decode cL_law 392 = .ok (.iadd, 1) := by decide +kernel
theorem dL_law_393 : decode cL_law 393 = .ok (.iaload, 1) := by decide +kernel
theorem dL_law_394 : decode cL_law 394 = .ok (.invokevirtual 61, 3) := by decide +kernel
theorem dL_law_397 : decode cL_law 397 = .ok (.pop, 1) := by decide +kernel
theorem dL_law_398 : decode cL_law 398 = .ok (.goto 138, 3) := by decide +kernel
theorem dL_law_401 : decode cL_law 401 = .ok (.aload_n 1, 1) := by decide +kernel
theorem dL_law_402 : decode cL_law 402 = .ok (.aload_n 0, 1) := by decide +kernel
theorem dL_law_403 : decode cL_law 403 = .ok (.iload_n 3, 1) := by decide +kernel
theorem dL_law_404 : decode cL_law 404 = .ok (.iconst 1, 1) := by decide +kernel
theorem dL_law_405 : decode cL_law 405 = .ok (.iadd, 1) := by decide +kernel
theorem dL_law_406 : decode cL_law 406 = .ok (.iaload, 1) := by decide +kernel
theorem dL_law_407 : decode cL_law 407 = .ok (.aload_n 0, 1) := by decide +kernel
theorem dL_law_408 : decode cL_law 408 = .ok (.iload_n 3, 1) := by decide +kernel
theorem dL_law_409 : decode cL_law 409 = .ok (.iconst 2, 1) := by decide +kernel
theorem dL_law_410 : decode cL_law 410 = .ok (.iadd, 1) := by decide +kernel
theorem dL_law_411 : decode cL_law 411 = .ok (.iaload, 1) := by decide +kernel
theorem dL_law_412 : decode cL_law 412 = .ok (.invokevirtual 62, 3) := by decide +kernel
theorem dL_law_415 : decode cL_law 415 = .ok (.pop, 1) := by decide +kernel
theorem dL_law_416 : decode cL_law 416 = .ok (.aload_n 2, 1) := by decide +kernel
theorem dL_law_417 : decode cL_law 417 = .ok (.aload_n 0, 1) := by decide +kernel
theorem dL_law_418 : decode cL_law 418 = .ok (.iload_n 3, 1) := by decide +kernel
theorem dL_law_419 : decode cL_law 419 = .ok (.iconst 1, 1) := by decide +kernel
theorem dL_law_420 : decode cL_law 420 = .ok (.iadd, 1) := by decide +kernel
theorem dL_law_421 : decode cL_law 421 = .ok (.iaload, 1) := by decide +kernel
theorem dL_law_422 : decode cL_law 422 = .ok (.aload_n 0, 1) := by decide +kernel
theorem dL_law_423 : decode cL_law 423 = .ok (.iload_n 3, 1) := by decide +kernel
theorem dL_law_424 : decode cL_law 424 = .ok (.iconst 2, 1) := by decide +kernel
theorem dL_law_425 : decode cL_law 425 = .ok (.iadd, 1) := by decide +kernel
theorem dL_law_426 : decode cL_law 426 = .ok (.iaload, 1) := by decide +kernel
theorem dL_law_427 : decode cL_law 427 = .ok (.invokevirtual 65, 3) := by decide +kernel
theorem dL_law_430 : decode cL_law 430 = .ok (.pop, 1) := by decide +kernel
theorem dL_law_431 : decode cL_law 431 = .ok (.goto 105, 3) := by decide +kernel
theorem dL_law_434 : decode cL_law 434 = .ok (.aload_n 1, 1) := by decide +kernel
theorem dL_law_435 : decode cL_law 435 = .ok (.aload_n 0, 1) := by decide +kernel
theorem dL_law_436 : decode cL_law 436 = .ok (.iload_n 3, 1) := by decide +kernel
theorem dL_law_437 : decode cL_law 437 = .ok (.iconst 1, 1) := by decide +kernel
theorem dL_law_438 : decode cL_law 438 = .ok (.iadd, 1) := by decide +kernel
theorem dL_law_439 : decode cL_law 439 = .ok (.iaload, 1) := by decide +kernel
theorem dL_law_440 : decode cL_law 440 = .ok (.aload_n 0, 1) := by decide +kernel
theorem dL_law_441 : decode cL_law 441 = .ok (.iload_n 3, 1) := by decide +kernel
theorem dL_law_442 : decode cL_law 442 = .ok (.iconst 2, 1) := by decide +kernel
theorem dL_law_443 : decode cL_law 443 = .ok (.iadd, 1) := by decide +kernel
theorem dL_law_444 : decode cL_law 444 = .ok (.iaload, 1) := by decide +kernel
theorem dL_law_445 : decode cL_law 445 = .ok (.invokevirtual 66, 3) := by decide +kernel
theorem dL_law_448 : decode cL_law 448 = .ok (.pop, 1) := by decide +kernel
theorem dL_law_449 : decode cL_law 449 = .ok (.aload_n 2, 1) := by decide +kernel
theorem dL_law_450 : decode cL_law 450 = .ok (.aload_n 0, 1) := by decide +kernel
theorem dL_law_451 : decode cL_law 451 = .ok (.iload_n 3, 1) := by decide +kernel
theorem dL_law_452 : decode cL_law 452 = .ok (.iconst 1, 1) := by decide +kernel
theorem dL_law_453 : decode cL_law 453 = .ok (.iadd, 1) := by decide +kernel
theorem dL_law_454 : decode cL_law 454 = .ok (.iaload, 1) := by decide +kernel
theorem dL_law_455 : decode cL_law 455 = .ok (.aload_n 0, 1) := by decide +kernel
theorem dL_law_456 : decode cL_law 456 = .ok (.iload_n 3, 1) := by decide +kernel
theorem dL_law_457 : decode cL_law 457 = .ok (.iconst 2, 1) := by decide +kernel
theorem dL_law_458 : decode cL_law 458 = .ok (.iadd, 1) := by decide +kernel
theorem dL_law_459 : decode cL_law 459 = .ok (.iaload, 1) := by decide +kernel
theorem dL_law_460 : decode cL_law 460 = .ok (.invokevirtual 69, 3) := by decide +kernel
theorem dL_law_463 : decode cL_law 463 = .ok (.pop, 1) := by decide +kernel
theorem dL_law_464 : decode cL_law 464 = .ok (.goto 72, 3) := by decide +kernel
theorem dL_law_467 : decode cL_law 467 = .ok (.aload_n 1, 1) := by decide +kernel
theorem dL_law_468 : decode cL_law 468 = .ok (.aload_n 0, 1) := by decide +kernel
theorem dL_law_469 : decode cL_law 469 = .ok (.iload_n 3, 1) := by decide +kernel
theorem dL_law_470 : decode cL_law 470 = .ok (.iconst 1, 1) := by decide +kernel
theorem dL_law_471 : decode cL_law 471 = .ok (.iadd, 1) := by decide +kernel
theorem dL_law_472 : decode cL_law 472 = .ok (.iaload, 1) := by decide +kernel
theorem dL_law_473 : decode cL_law 473 = .ok (.invokevirtual 70, 3) := by decide +kernel
theorem dL_law_476 : decode cL_law 476 = .ok (.pop, 1) := by decide +kernel
theorem dL_law_477 : decode cL_law 477 = .ok (.aload_n 2, 1) := by decide +kernel
theorem dL_law_478 : decode cL_law 478 = .ok (.aload_n 0, 1) := by decide +kernel
theorem dL_law_479 : decode cL_law 479 = .ok (.iload_n 3, 1) := by decide +kernel
theorem dL_law_480 : decode cL_law 480 = .ok (.iconst 1, 1) := by decide +kernel
theorem dL_law_481 : decode cL_law 481 = .ok (.iadd, 1) := by decide +kernel
theorem dL_law_482 : decode cL_law 482 = .ok (.iaload, 1) := by decide +kernel
theorem dL_law_483 : decode cL_law 483 = .ok (.invokevirtual 73, 3) := by decide +kernel
theorem dL_law_486 : decode cL_law 486 = .ok (.pop, 1) := by decide +kernel
theorem dL_law_487 : decode cL_law 487 = .ok (.goto 49, 3) := by decide +kernel
theorem dL_law_490 : decode cL_law 490 = .ok (.aload_n 1, 1) := by decide +kernel
theorem dL_law_491 : decode cL_law 491 = .ok (.aload_n 0, 1) := by decide +kernel
theorem dL_law_492 : decode cL_law 492 = .ok (.iload_n 3, 1) := by decide +kernel
theorem dL_law_493 : decode cL_law 493 = .ok (.iconst 1, 1) := by decide +kernel
theorem dL_law_494 : decode cL_law 494 = .ok (.iadd, 1) := by decide +kernel
theorem dL_law_495 : decode cL_law 495 = .ok (.iaload, 1) := by decide +kernel
theorem dL_law_496 : decode cL_law 496 = .ok (.invokevirtual 74, 3) := by decide +kernel
theorem dL_law_499 : decode cL_law 499 = .ok (.pop, 1) := by decide +kernel
theorem dL_law_500 : decode cL_law 500 = .ok (.aload_n 2, 1) := by decide +kernel
theorem dL_law_501 : decode cL_law 501 = .ok (.aload_n 0, 1) := by decide +kernel
theorem dL_law_502 : decode cL_law 502 = .ok (.iload_n 3, 1) := by decide +kernel
theorem dL_law_503 : decode cL_law 503 = .ok (.iconst 1, 1) := by decide +kernel
theorem dL_law_504 : decode cL_law 504 = .ok (.iadd, 1) := by decide +kernel
theorem dL_law_505 : decode cL_law 505 = .ok (.iaload, 1) := by decide +kernel
theorem dL_law_506 : decode cL_law 506 = .ok (.invokevirtual 77, 3) := by decide +kernel
theorem dL_law_509 : decode cL_law 509 = .ok (.pop, 1) := by decide +kernel
theorem dL_law_510 : decode cL_law 510 = .ok (.goto 26, 3) := by decide +kernel
theorem dL_law_513 : decode cL_law 513 = .ok (.aload_n 1, 1) := by decide +kernel
theorem dL_law_514 : decode cL_law 514 = .ok (.aload_n 0, 1) := by decide +kernel
theorem dL_law_515 : decode cL_law 515 = .ok (.iload_n 3, 1) := by decide +kernel
theorem dL_law_516 : decode cL_law 516 = .ok (.iconst 1, 1) := by decide +kernel
theorem dL_law_517 : decode cL_law 517 = .ok (.iadd, 1) := by decide +kernel
theorem dL_law_518 : decode cL_law 518 = .ok (.iaload, 1) := by decide +kernel
theorem dL_law_519 : decode cL_law 519 = .ok (.invokevirtual 78, 3) := by decide +kernel
theorem dL_law_522 : decode cL_law 522 = .ok (.aload_n 2, 1) := by decide +kernel
theorem dL_law_523 : decode cL_law 523 = .ok (.aload_n 0, 1) := by decide +kernel
theorem dL_law_524 : decode cL_law 524 = .ok (.iload_n 3, 1) := by decide +kernel
theorem dL_law_525 : decode cL_law 525 = .ok (.iconst 1, 1) := by decide +kernel
theorem dL_law_526 : decode cL_law 526 = .ok (.iadd, 1) := by decide +kernel
theorem dL_law_527 : decode cL_law 527 = .ok (.iaload, 1) := by decide +kernel
theorem dL_law_528 : decode cL_law 528 = .ok (.invokevirtual 81, 3) := by decide +kernel
theorem dL_law_531 : decode cL_law 531 = .ok (.if_icmp .eq 5, 3) := by decide +kernel
theorem dL_law_534 : decode cL_law 534 = .ok (.iconst 0, 1) := by decide +kernel
theorem dL_law_535 : decode cL_law 535 = .ok (.ireturn, 1) := by decide +kernel
theorem dL_law_536 : decode cL_law 536 = .ok (.iinc 3 5, 3) := by decide +kernel
theorem dL_law_539 : decode cL_law 539 = .ok (.goto (-521), 3) := by decide +kernel
theorem dL_law_542 : decode cL_law 542 = .ok (.iconst 1, 1) := by decide +kernel
theorem dL_law_543 : decode cL_law 543 = .ok (.ireturn, 1) := by decide +kernel
