theorem dX10_joined_187 : decode cX10_joined 187 = .ok (.iload_n 2, 1) := by decide +kernel
theorem dX10_joined_188 : decode cX10_joined 188 = .ok (.ifCond .eq 7, 3) := by decide +kernel
theorem dX10_joined_191 : decode cX10_joined 191 = .ok (.iconst 1, 1) := by decide +kernel
theorem dX10_joined_192 : decode cX10_joined 192 = .ok (.goto 4, 3) := by decide +kernel
theorem dX10_joined_195 : decode cX10_joined 195 = .ok (.iconst 0, 1) := by decide +kernel
theorem dX10_joined_196 : decode cX10_joined 196 = .ok (.ireturn, 1) := by decide +kernel
theorem dX10_joined_197 : decode cX10_joined 197 = .ok (.iload_n 1, 1) := by decide +kernel
theorem dX10_joined_198 : decode cX10_joined 198 = .ok (.ifCond .ne 7, 3) := by decide +kernel
theorem dX10_joined_201 : decode cX10_joined 201 = .ok (.iload_n 2, 1) := by decide +kernel
theorem dX10_joined_202 : decode cX10_joined 202 = .ok (.ifCond .eq 7, 3) := by decide +kernel
theorem dX10_joined_205 : decode cX10_joined 205 = .ok (.iconst 1, 1) := by decide +kernel
theorem dX10_joined_206 : decode cX10_joined 206 = .ok (.goto 4, 3) := by decide +kernel
theorem dX10_joined_209 : decode cX10_joined 209 = .ok (.iconst 0, 1) := by decide +kernel
theorem dX10_joined_210 : decode cX10_joined 210 = .ok (.ireturn, 1) := by decide +kernel
theorem dX10_worked_0 : decode cX10_worked 0 = .ok (.iconst 0, 1) := by decide +kernel
theorem dX10_worked_1 : decode cX10_worked 1 = .ok (.istore_n 2, 1) := by decide +kernel
theorem dX10_worked_2 : decode cX10_worked 2 = .ok (.iconst 0, 1) := by decide +kernel
theorem dX10_worked_3 : decode cX10_worked 3 = .ok (.istore_n 3, 1) := by decide +kernel
theorem dX10_worked_4 : decode cX10_worked 4 = .ok (.iload_n 3, 1) := by decide +kernel
theorem dX10_worked_5 : decode cX10_worked 5 = .ok (.aload_n 0, 1) := by decide +kernel
theorem dX10_worked_6 : decode cX10_worked 6 = .ok (.getfield 7, 3) := by decide +kernel
theorem dX10_worked_9 : decode cX10_worked 9 = .ok (.aload_n 0, 1) := by decide +kernel
theorem dX10_worked_10 : decode cX10_worked 10 = .ok (.iload_n 1, 1) := by decide +kernel
theorem dX10_worked_11 : decode cX10_worked 11 = .ok (.invokevirtual 304, 3) := by decide +kernel
theorem dX10_worked_14 : decode cX10_worked 14 = .ok (.iconst 2, 1) := by decide +kernel
theorem dX10_worked_15 : decode cX10_worked 15 = .ok (.iadd, 1) := by decide +kernel
theorem dX10_worked_16 : decode cX10_worked 16 = .ok (.iaload, 1) := by decide +kernel
theorem dX10_worked_17 : decode cX10_worked 17 = .ok (.if_icmp .ge 146, 3) := by decide +kernel
theorem dX10_worked_20 : decode cX10_worked 20 = .ok (.aload_n 0, 1) := by decide +kernel
theorem dX10_worked_21 : decode cX10_worked 21 = .ok (.getfield 7, 3) := by decide +kernel
theorem dX10_worked_24 : decode cX10_worked 24 = .ok (.aload_n 0, 1) := by decide +kernel
theorem dX10_worked_25 : decode cX10_worked 25 = .ok (.iload_n 1, 1) := by decide +kernel
theorem dX10_worked_26 : decode cX10_worked 26 = .ok (.invokevirtual 304, 3) := by decide +kernel
theorem dX10_worked_29 : decode cX10_worked 29 = .ok (.iconst 4, 1) := by decide +kernel
theorem dX10_worked_30 : decode cX10_worked 30 = .ok (.iadd, 1) := by decide +kernel
theorem dX10_worked_31 : decode cX10_worked 31 = .ok (.iconst 2, 1) := by decide +kernel
theorem dX10_worked_32 : decode cX10_worked 32 = .ok (.iload_n 3, 1) := by decide +kernel
theorem dX10_worked_33 : decode cX10_worked 33 = .ok (.imul, 1) := by decide +kernel
theorem dX10_worked_34 : decode cX10_worked 34 = .ok (.iadd, 1) := by decide +kernel
theorem dX10_worked_35 : decode cX10_worked 35 = .ok (.iaload, 1) := by decide +kernel
theorem dX10_worked_36 : decode cX10_worked 36 = .ok (.istore 4, 2) := by decide +kernel
theorem dX10_worked_38 : decode cX10_worked 38 = .ok (.aload_n 0, 1) := by decide +kernel
theorem dX10_worked_39 : decode cX10_worked 39 = .ok (.getfield 7, 3) := by decide +kernel
theorem dX10_worked_42 : decode cX10_worked 42 = .ok (.aload_n 0, 1) := by decide +kernel
theorem dX10_worked_43 : decode cX10_worked 43 = .ok (.iload_n 1, 1) := by decide +kernel
theorem dX10_worked_44 : decode cX10_worked 44 = .ok (.invokevirtual 304, 3) := by decide +kernel
theorem dX10_worked_47 : decode cX10_worked 47 = .ok (.iconst 4, 1) := by decide +kernel
theorem dX10_worked_48 : decode cX10_worked 48 = .ok (.iadd, 1) := by decide +kernel
theorem dX10_worked_49 : decode cX10_worked 49 = .ok (.iconst 2, 1) := by decide +kernel
theorem dX10_worked_50 : decode cX10_worked 50 = .ok (.iload_n 3, 1) := by decide +kernel
theorem dX10_worked_51 : decode cX10_worked 51 = .ok (.imul, 1) := by decide +kernel
theorem dX10_worked_52 : decode cX10_worked 52 = .ok (.iadd, 1) := by decide +kernel
theorem dX10_worked_53 : decode cX10_worked 53 = .ok (.iconst 1, 1) := by decide +kernel
theorem dX10_worked_54 : decode cX10_worked 54 = .ok (.iadd, 1) := by decide +kernel
theorem dX10_worked_55 : decode cX10_worked 55 = .ok (.iaload, 1) := by decide +kernel
theorem dX10_worked_56 : decode cX10_worked 56 = .ok (.istore 5, 2) := by decide +kernel
theorem dX10_worked_58 : decode cX10_worked 58 = .ok (.iload 4, 2) := by decide +kernel
theorem dX10_worked_60 : decode cX10_worked 60 = .ok (.iconst 2, 1) := by decide +kernel
theorem dX10_worked_61 : decode cX10_worked 61 = .ok (.if_icmp .eq 32, 3) := by decide +kernel
theorem dX10_worked_64 : decode cX10_worked 64 = .ok (.aload_n 0, 1) := by decide +kernel
theorem dX10_worked_65 : decode cX10_worked 65 = .ok (.getfield 74, 3) := by decide +kernel
theorem dX10_worked_68 : decode cX10_worked 68 = .ok (.iload_n 2, 1) := by decide +kernel
theorem dX10_worked_69 : decode cX10_worked 69 = .ok (.iload 4, 2) := by decide +kernel
theorem dX10_worked_71 : decode cX10_worked 71 = .ok (.ifCond .ne 8, 3) := by decide +kernel
theorem dX10_worked_74 : decode cX10_worked 74 = .ok (.iload 5, 2) := by decide +kernel
theorem dX10_worked_76 : decode cX10_worked 76 = .ok (.goto 10, 3) := by decide +kernel
theorem dX10_worked_79 : decode cX10_worked 79 = .ok (.aload_n 0, 1) := by decide +kernel
theorem dX10_worked_80 : decode cX10_worked 80 = .ok (.getfield 71, 3) := by decide +kernel
theorem dX10_worked_83 : decode cX10_worked 83 = .ok (.iload 5, 2) := by decide +kernel
theorem dX10_worked_85 : decode cX10_worked 85 = .ok (.iaload, 1) := by decide +kernel
theorem dX10_worked_86 : decode cX10_worked 86 = .ok (.iastore, 1) := by decide +kernel
theorem dX10_worked_87 : decode cX10_worked 87 = .ok (.iinc 2 1, 3) := by decide +kernel
theorem dX10_worked_90 : decode cX10_worked 90 = .ok (.goto 67, 3) := by decide +kernel
theorem dX10_worked_93 : decode cX10_worked 93 = .ok (.iload 5, 2) := by decide +kernel
theorem dX10_worked_95 : decode cX10_worked 95 = .ok (.bipush 33, 2) := by decide +kernel
theorem dX10_worked_97 : decode cX10_worked 97 = .ok (.if_icmp .ne 30, 3) := by decide +kernel
theorem dX10_worked_100 : decode cX10_worked 100 = .ok (.aload_n 0, 1) := by decide +kernel
theorem dX10_worked_101 : decode cX10_worked 101 = .ok (.getfield 74, 3) := by decide +kernel
theorem dX10_worked_104 : decode cX10_worked 104 = .ok (.iload_n 2, 1) := by decide +kernel
theorem dX10_worked_105 : decode cX10_worked 105 = .ok (.iconst 1, 1) := by decide +kernel
theorem dX10_worked_106 : decode cX10_worked 106 = .ok (.isub, 1) := by decide +kernel
theorem dX10_worked_107 : decode cX10_worked 107 = .ok (.aload_n 0, 1) := by decide +kernel
theorem dX10_worked_108 : decode cX10_worked 108 = .ok (.getfield 74, 3) := by decide +kernel
theorem dX10_worked_111 : decode cX10_worked 111 = .ok (.iload_n 2, 1) := by decide +kernel
theorem dX10_worked_112 : decode cX10_worked 112 = .ok (.iconst 1, 1) := by decide +kernel
theorem dX10_worked_113 : decode cX10_worked 113 = .ok (.isub, 1) := by decide +kernel
theorem dX10_worked_114 : decode cX10_worked 114 = .ok (.iaload, 1) := by decide +kernel
theorem dX10_worked_115 : decode cX10_worked 115 = .ok (.ifCond .ne 7, 3) := by decide +kernel
theorem dX10_worked_118 : decode cX10_worked 118 = .ok (.iconst 1, 1) := by decide +kernel
theorem dX10_worked_119 : decode cX10_worked 119 = .ok (.goto 4, 3) := by decide +kernel
theorem dX10_worked_122 : decode cX10_worked 122 = .ok (.iconst 0, 1) := by decide +kernel
theorem dX10_worked_123 : decode cX10_worked 123 = .ok (.iastore, 1) := by decide +kernel
theorem dX10_worked_124 : decode cX10_worked 124 = .ok (.goto 33, 3) := by decide +kernel
theorem dX10_worked_127 : decode cX10_worked 127 = .ok (.iinc 2 (-1), 3) := by decide +kernel
theorem dX10_worked_130 : decode cX10_worked 130 = .ok (.aload_n 0, 1) := by decide +kernel
theorem dX10_worked_131 : decode cX10_worked 131 = .ok (.getfield 74, 3) := by decide +kernel
theorem dX10_worked_134 : decode cX10_worked 134 = .ok (.iload_n 2, 1) := by decide +kernel
theorem dX10_worked_135 : decode cX10_worked 135 = .ok (.iconst 1, 1) := by decide +kernel
theorem dX10_worked_136 : decode cX10_worked 136 = .ok (.isub, 1) := by decide +kernel
theorem dX10_worked_137 : decode cX10_worked 137 = .ok (.iload 5, 2) := by decide +kernel
theorem dX10_worked_139 : decode cX10_worked 139 = .ok (.aload_n 0, 1) := by decide +kernel
theorem dX10_worked_140 : decode cX10_worked 140 = .ok (.getfield 74, 3) := by decide +kernel
theorem dX10_worked_143 : decode cX10_worked 143 = .ok (.iload_n 2, 1) := by decide +kernel
theorem dX10_worked_144 : decode cX10_worked 144 = .ok (.iconst 1, 1) := by decide +kernel
theorem dX10_worked_145 : decode cX10_worked 145 = .ok (.isub, 1) := by decide +kernel
theorem dX10_worked_146 : decode cX10_worked 146 = .ok (.iaload, 1) := by decide +kernel
theorem dX10_worked_147 : decode cX10_worked 147 = .ok (.aload_n 0, 1) := by decide +kernel
theorem dX10_worked_148 : decode cX10_worked 148 = .ok (.getfield 74, 3) := by decide +kernel
theorem dX10_worked_151 : decode cX10_worked 151 = .ok (.iload_n 2, 1) := by decide +kernel
theorem dX10_worked_152 : decode cX10_worked 152 = .ok (.iaload, 1) := by decide +kernel
theorem dX10_worked_153 : decode cX10_worked 153 = .ok (.invokestatic 319, 3) := by decide +kernel
theorem dX10_worked_156 : decode cX10_worked 156 = .ok (.iastore, 1) := by decide +kernel
theorem dX10_worked_157 : decode cX10_worked 157 = .ok (.iinc 3 1, 3) := by decide +kernel
theorem dX10_worked_160 : decode cX10_worked 160 = .ok (.goto (-156), 3) := by decide +kernel
theorem dX10_worked_163 : decode cX10_worked 163 = .ok (.aload_n 0, 1) := by decide +kernel
theorem dX10_worked_164 : decode cX10_worked 164 = .ok (.getfield 74, 3) := by decide +kernel
theorem dX10_worked_167 : decode cX10_worked 167 = .ok (.iconst 0, 1) := by decide +kernel
theorem dX10_worked_168 : decode cX10_worked 168 = .ok (.iaload, 1) := by decide +kernel
theorem dX10_worked_169 : decode cX10_worked 169 = .ok (.ireturn, 1) := by decide +kernel
theorem dX10_isSheet_0 : decode cX10_isSheet 0 = .ok (.iload_n 0, 1) := by decide +kernel
theorem dX10_isSheet_1 : decode cX10_isSheet 1 = .ok (.i2l, 1) := by decide +kernel
theorem dX10_isSheet_2 : decode cX10_isSheet 2 = .ok (.lconst 0, 1) := by decide +kernel
theorem dX10_isSheet_3 : decode cX10_isSheet 3 = .ok (.ldc2_w 171, 3) := by decide +kernel
theorem dX10_isSheet_6 : decode cX10_isSheet 6 = .ok (.invokestatic 87, 3) := by decide +kernel
theorem dX10_isSheet_9 : decode cX10_isSheet 9 = .ok (.ireturn, 1) := by decide +kernel
theorem dX10_sheet_0 : decode cX10_sheet 0 = .ok (.iload_n 1, 1) := by decide +kernel
theorem dX10_sheet_1 : decode cX10_sheet 1 = .ok (.invokestatic 323, 3) := by decide +kernel
theorem dX10_sheet_4 : decode cX10_sheet 4 = .ok (.ifCond .eq 25, 3) := by decide +kernel
theorem dX10_sheet_7 : decode cX10_sheet 7 = .ok (.iload_n 2, 1) := by decide +kernel
theorem dX10_sheet_8 : decode cX10_sheet 8 = .ok (.i2l, 1) := by decide +kernel
theorem dX10_sheet_9 : decode cX10_sheet 9 = .ok (.ldc2_w 326, 3) := by decide +kernel
theorem dX10_sheet_12 : decode cX10_sheet 12 = .ok (.lconst 1, 1) := by decide +kernel
theorem dX10_sheet_13 : decode cX10_sheet 13 = .ok (.invokestatic 87, 3) := by decide +kernel
theorem dX10_sheet_16 : decode cX10_sheet 16 = .ok (.ifCond .eq 13, 3) := by decide +kernel
theorem dX10_sheet_19 : decode cX10_sheet 19 = .ok (.iload_n 2, 1) := by decide +kernel
theorem dX10_sheet_20 : decode cX10_sheet 20 = .ok (.ifCond .lt 12, 3) := by decide +kernel
theorem dX10_sheet_23 : decode cX10_sheet 23 = .ok (.iload_n 3, 1) := by decide +kernel
theorem dX10_sheet_24 : decode cX10_sheet 24 = .ok (.bipush 24, 2) := by decide +kernel
theorem dX10_sheet_26 : decode cX10_sheet 26 = .ok (.if_icmp .le 6, 3) := by decide +kernel
theorem dX10_sheet_29 : decode cX10_sheet 29 = .ok (.ldc 126, 2) := by decide +kernel
theorem dX10_sheet_31 : decode cX10_sheet 31 = .ok (.ireturn, 1) := by decide +kernel
theorem dX10_sheet_32 : decode cX10_sheet 32 = .ok (.iload_n 2, 1) := by decide +kernel
theorem dX10_sheet_33 : decode cX10_sheet 33 = .ok (.ifCond .lt 11, 3) := by decide +kernel
theorem dX10_sheet_36 : decode cX10_sheet 36 = .ok (.iload_n 3, 1) := by decide +kernel
theorem dX10_sheet_37 : decode cX10_sheet 37 = .ok (.ifCond .ge 7, 3) := by decide +kernel
theorem dX10_sheet_40 : decode cX10_sheet 40 = .ok (.ldc_w 328, 3) := by decide +kernel
theorem dX10_sheet_43 : decode cX10_sheet 43 = .ok (.ireturn, 1) := by decide +kernel
theorem dX10_sheet_44 : decode cX10_sheet 44 = .ok (.aload_n 0, 1) := by decide +kernel
theorem dX10_sheet_45 : decode cX10_sheet 45 = .ok (.getfield 19, 3) := by decide +kernel
theorem dX10_sheet_48 : decode cX10_sheet 48 = .ok (.iload_n 1, 1) := by decide +kernel
theorem dX10_sheet_49 : decode cX10_sheet 49 = .ok (.iload_n 2, 1) := by decide +kernel
theorem dX10_sheet_50 : decode cX10_sheet 50 = .ok (.iastore, 1) := by decide +kernel
theorem dX10_sheet_51 : decode cX10_sheet 51 = .ok (.aload_n 0, 1) := by decide +kernel
theorem dX10_sheet_52 : decode cX10_sheet 52 = .ok (.getfield 22, 3) := by decide +kernel
theorem dX10_sheet_55 : decode cX10_sheet 55 = .ok (.iload_n 1, 1) := by decide +kernel
theorem dX10_sheet_56 : decode cX10_sheet 56 = .ok (.iload_n 2, 1) := by decide +kernel
theorem dX10_sheet_57 : decode cX10_sheet 57 = .ok (.ifCond .ge 7, 3) := by decide +kernel
theorem dX10_sheet_60 : decode cX10_sheet 60 = .ok (.iconst 0, 1) := by decide +kernel
theorem dX10_sheet_61 : decode cX10_sheet 61 = .ok (.goto 4, 3) := by decide +kernel
theorem dX10_sheet_64 : decode cX10_sheet 64 = .ok (.iload_n 3, 1) := by decide +kernel
theorem dX10_sheet_65 : decode cX10_sheet 65 = .ok (.iastore, 1) := by decide +kernel
theorem dX10_sheet_66 : decode cX10_sheet 66 = .ok (.iconst 0, 1) := by decide +kernel
theorem dX10_sheet_67 : decode cX10_sheet 67 = .ok (.istore 4, 2) := by decide +kernel
theorem dX10_sheet_69 : decode cX10_sheet 69 = .ok (.iload 4, 2) := by decide +kernel
theorem dX10_sheet_71 : decode cX10_sheet 71 = .ok (.bipush 24, 2) := by decide +kernel
theorem dX10_sheet_73 : decode cX10_sheet 73 = .ok (.if_icmp .ge 22, 3) := by decide +kernel
theorem dX10_sheet_76 : decode cX10_sheet 76 = .ok (.aload_n 0, 1) := by decide +kernel
theorem dX10_sheet_77 : decode cX10_sheet 77 = .ok (.getfield 25, 3) := by decide +kernel
theorem dX10_sheet_80 : decode cX10_sheet 80 = .ok (.bipush 24, 2) := by decide +kernel
theorem dX10_sheet_82 : decode cX10_sheet 82 = .ok (.iload_n 1, 1) := by decide +kernel
theorem dX10_sheet_83 : decode cX10_sheet 83 = .ok (.imul, 1) := by decide +kernel
theorem dX10_sheet_84 : decode cX10_sheet 84 = .ok (.iload 4, 2) := by decide +kernel
theorem dX10_sheet_86 : decode cX10_sheet 86 = .ok (.iadd, 1) := by decide +kernel
theorem dX10_sheet_87 : decode cX10_sheet 87 = .ok (.iconst 0, 1) := by decide +kernel
theorem dX10_sheet_88 : decode cX10_sheet 88 = .ok (.iastore, 1) := by decide +kernel
theorem dX10_sheet_89 : decode cX10_sheet 89 = .ok (.iinc 4 1, 3) := by decide +kernel
theorem dX10_sheet_92 : decode cX10_sheet 92 = .ok (.goto (-23), 3) := by decide +kernel
theorem dX10_sheet_95 : decode cX10_sheet 95 = .ok (.aload_n 0, 1) := by decide +kernel
theorem dX10_sheet_96 : decode cX10_sheet 96 = .ok (.getfield 22, 3) := by decide +kernel
theorem dX10_sheet_99 : decode cX10_sheet 99 = .ok (.iload_n 1, 1) := by decide +kernel
theorem dX10_sheet_100 : decode cX10_sheet 100 = .ok (.iaload, 1) := by decide +kernel
theorem dX10_sheet_101 : decode cX10_sheet 101 = .ok (.ireturn, 1) := by decide +kernel
theorem dX10_mark_0 : decode cX10_mark 0 = .ok (.iload_n 1, 1) := by decide +kernel
theorem dX10_mark_1 : decode cX10_mark 1 = .ok (.invokestatic 323, 3) := by decide +kernel
theorem dX10_mark_4 : decode cX10_mark 4 = .ok (.ifCond .ne 6, 3) := by decide +kernel
theorem dX10_mark_7 : decode cX10_mark 7 = .ok (.ldc 126, 2) := by decide +kernel
theorem dX10_mark_9 : decode cX10_mark 9 = .ok (.ireturn, 1) := by decide +kernel
theorem dX10_mark_10 : decode cX10_mark 10 = .ok (.aload_n 0, 1) := by decide +kernel
theorem dX10_mark_11 : decode cX10_mark 11 = .ok (.getfield 19, 3) := by decide +kernel
theorem dX10_mark_14 : decode cX10_mark 14 = .ok (.iload_n 1, 1) := by decide +kernel
theorem dX10_mark_15 : decode cX10_mark 15 = .ok (.iaload, 1) := by decide +kernel
theorem dX10_mark_16 : decode cX10_mark 16 = .ok (.ifCond .ge 7, 3) := by decide +kernel
theorem dX10_mark_19 : decode cX10_mark 19 = .ok (.ldc_w 329, 3) := by decide +kernel
theorem dX10_mark_22 : decode cX10_mark 22 = .ok (.ireturn, 1) := by decide +kernel
theorem dX10_mark_23 : decode cX10_mark 23 = .ok (.iload_n 2, 1) := by decide +kernel
theorem dX10_mark_24 : decode cX10_mark 24 = .ok (.i2l, 1) := by decide +kernel
theorem dX10_mark_25 : decode cX10_mark 25 = .ok (.lconst 0, 1) := by decide +kernel
theorem dX10_mark_26 : decode cX10_mark 26 = .ok (.aload_n 0, 1) := by decide +kernel
theorem dX10_mark_27 : decode cX10_mark 27 = .ok (.getfield 22, 3) := by decide +kernel
theorem dX10_mark_30 : decode cX10_mark 30 = .ok (.iload_n 1, 1) := by decide +kernel
theorem dX10_mark_31 : decode cX10_mark 31 = .ok (.iaload, 1) := by decide +kernel
theorem dX10_mark_32 : decode cX10_mark 32 = .ok (.iconst 1, 1) := by decide +kernel
theorem dX10_mark_33 : decode cX10_mark 33 = .ok (.isub, 1) := by decide +kernel
theorem dX10_mark_34 : decode cX10_mark 34 = .ok (.i2l, 1) := by decide +kernel
theorem dX10_mark_35 : decode cX10_mark 35 = .ok (.invokestatic 87, 3) := by decide +kernel
theorem dX10_mark_38 : decode cX10_mark 38 = .ok (.ifCond .ne 7, 3) := by decide +kernel
theorem dX10_mark_41 : decode cX10_mark 41 = .ok (.ldc_w 330, 3) := by decide +kernel
theorem dX10_mark_44 : decode cX10_mark 44 = .ok (.ireturn, 1) := by decide +kernel
theorem dX10_mark_45 : decode cX10_mark 45 = .ok (.aload_n 0, 1) := by decide +kernel
theorem dX10_mark_46 : decode cX10_mark 46 = .ok (.getfield 19, 3) := by decide +kernel
theorem dX10_mark_49 : decode cX10_mark 49 = .ok (.iload_n 1, 1) := by decide +kernel
theorem dX10_mark_50 : decode cX10_mark 50 = .ok (.iaload, 1) := by decide +kernel
theorem dX10_mark_51 : decode cX10_mark 51 = .ok (.ifCond .ne 12, 3) := by decide +kernel
theorem dX10_mark_54 : decode cX10_mark 54 = .ok (.iload_n 3, 1) := by decide +kernel
theorem dX10_mark_55 : decode cX10_mark 55 = .ok (.ldc 86, 2) := by decide +kernel
theorem dX10_mark_57 : decode cX10_mark 57 = .ok (.if_icmp .ne 6, 3) := by decide +kernel
theorem dX10_mark_60 : decode cX10_mark 60 = .ok (.ldc 144, 2) := by decide +kernel
theorem dX10_mark_62 : decode cX10_mark 62 = .ok (.ireturn, 1) := by decide +kernel
theorem dX10_mark_63 : decode cX10_mark 63 = .ok (.aload_n 0, 1) := by decide +kernel
theorem dX10_mark_64 : decode cX10_mark 64 = .ok (.getfield 19, 3) := by decide +kernel
theorem dX10_mark_67 : decode cX10_mark 67 = .ok (.iload_n 1, 1) := by decide +kernel
theorem dX10_mark_68 : decode cX10_mark 68 = .ok (.iaload, 1) := by decide +kernel
theorem dX10_mark_69 : decode cX10_mark 69 = .ok (.iconst 1, 1) := by decide +kernel
theorem dX10_mark_70 : decode cX10_mark 70 = .ok (.if_icmp .ne 26, 3) := by decide +kernel
theorem dX10_mark_73 : decode cX10_mark 73 = .ok (.iload_n 3, 1) := by decide +kernel
theorem dX10_mark_74 : decode cX10_mark 74 = .ok (.ldc 86, 2) := by decide +kernel
theorem dX10_mark_76 : decode cX10_mark 76 = .ok (.if_icmp .eq 20, 3) := by decide +kernel
theorem dX10_mark_79 : decode cX10_mark 79 = .ok (.iload_n 3, 1) := by decide +kernel
theorem dX10_mark_80 : decode cX10_mark 80 = .ok (.i2l, 1) := by decide +kernel
theorem dX10_mark_81 : decode cX10_mark 81 = .ok (.ldc2_w 331, 3) := by decide +kernel
theorem dX10_mark_84 : decode cX10_mark 84 = .ok (.ldc2_w 195, 3) := by decide +kernel
theorem dX10_mark_87 : decode cX10_mark 87 = .ok (.invokestatic 87, 3) := by decide +kernel
theorem dX10_mark_90 : decode cX10_mark 90 = .ok (.ifCond .ne 6, 3) := by decide +kernel
theorem dX10_mark_93 : decode cX10_mark 93 = .ok (.ldc 126, 2) := by decide +kernel
theorem dX10_mark_95 : decode cX10_mark 95 = .ok (.ireturn, 1) := by decide +kernel
theorem dX10_mark_96 : decode cX10_mark 96 = .ok (.aload_n 0, 1) := by decide +kernel
theorem dX10_mark_97 : decode cX10_mark 97 = .ok (.getfield 25, 3) := by decide +kernel
theorem dX10_mark_100 : decode cX10_mark 100 = .ok (.bipush 24, 2) := by decide +kernel
theorem dX10_mark_102 : decode cX10_mark 102 = .ok (.iload_n 1, 1) := by decide +kernel
theorem dX10_mark_103 : decode cX10_mark 103 = .ok (.imul, 1) := by decide +kernel
theorem dX10_mark_104 : decode cX10_mark 104 = .ok (.iload_n 2, 1) := by decide +kernel
theorem dX10_mark_105 : decode cX10_mark 105 = .ok (.iadd, 1) := by decide +kernel
theorem dX10_mark_106 : decode cX10_mark 106 = .ok (.aload_n 0, 1) := by decide +kernel
theorem dX10_mark_107 : decode cX10_mark 107 = .ok (.getfield 19, 3) := by decide +kernel
theorem dX10_mark_110 : decode cX10_mark 110 = .ok (.iload_n 1, 1) := by decide +kernel
theorem dX10_mark_111 : decode cX10_mark 111 = .ok (.iaload, 1) := by decide +kernel
theorem dX10_mark_112 : decode cX10_mark 112 = .ok (.ifCond .ne 13, 3) := by decide +kernel
theorem dX10_mark_115 : decode cX10_mark 115 = .ok (.iload_n 3, 1) := by decide +kernel
theorem dX10_mark_116 : decode cX10_mark 116 = .ok (.bipush 16, 2) := by decide +kernel
theorem dX10_mark_118 : decode cX10_mark 118 = .ok (.ishl, 1) := by decide +kernel
theorem dX10_mark_119 : decode cX10_mark 119 = .ok (.bipush 16, 2) := by decide +kernel
theorem dX10_mark_121 : decode cX10_mark 121 = .ok (.ishr, 1) := by decide +kernel
theorem dX10_mark_122 : decode cX10_mark 122 = .ok (.goto 4, 3) := by decide +kernel
theorem dX10_mark_125 : decode cX10_mark 125 = .ok (.iload_n 3, 1) := by decide +kernel
theorem dX10_mark_126 : decode cX10_mark 126 = .ok (.iastore, 1) := by decide +kernel
theorem dX10_mark_127 : decode cX10_mark 127 = .ok (.iconst 1, 1) := by decide +kernel
theorem dX10_mark_128 : decode cX10_mark 128 = .ok (.ireturn, 1) := by decide +kernel
theorem dX10_pour_0 : decode cX10_pour 0 = .ok (.iload_n 1, 1) := by decide +kernel
theorem dX10_pour_1 : decode cX10_pour 1 = .ok (.invokestatic 323, 3) := by decide +kernel
theorem dX10_pour_4 : decode cX10_pour 4 = .ok (.ifCond .eq 15, 3) := by decide +kernel
theorem dX10_pour_7 : decode cX10_pour 7 = .ok (.iload_n 2, 1) := by decide +kernel
theorem dX10_pour_8 : decode cX10_pour 8 = .ok (.i2l, 1) := by decide +kernel
theorem dX10_pour_9 : decode cX10_pour 9 = .ok (.lconst 0, 1) := by decide +kernel
theorem dX10_pour_10 : decode cX10_pour 10 = .ok (.ldc2_w 190, 3) := by decide +kernel
theorem dX10_pour_13 : decode cX10_pour 13 = .ok (.invokestatic 87, 3) := by decide +kernel
theorem dX10_pour_16 : decode cX10_pour 16 = .ok (.ifCond .ne 6, 3) := by decide +kernel
theorem dX10_pour_19 : decode cX10_pour 19 = .ok (.ldc 126, 2) := by decide +kernel
theorem dX10_pour_21 : decode cX10_pour 21 = .ok (.ireturn, 1) := by decide +kernel
theorem dX10_pour_22 : decode cX10_pour 22 = .ok (.aload_n 0, 1) := by decide +kernel
theorem dX10_pour_23 : decode cX10_pour 23 = .ok (.getfield 19, 3) := by decide +kernel
theorem dX10_pour_26 : decode cX10_pour 26 = .ok (.iload_n 1, 1) := by decide +kernel
theorem dX10_pour_27 : decode cX10_pour 27 = .ok (.iaload, 1) := by decide +kernel
theorem dX10_pour_28 : decode cX10_pour 28 = .ok (.ifCond .ge 7, 3) := by decide +kernel
theorem dX10_pour_31 : decode cX10_pour 31 = .ok (.ldc_w 329, 3) := by decide +kernel
theorem dX10_pour_34 : decode cX10_pour 34 = .ok (.ireturn, 1) := by decide +kernel
theorem dX10_pour_35 : decode cX10_pour 35 = .ok (.iconst 0, 1) := by decide +kernel
theorem dX10_pour_36 : decode cX10_pour 36 = .ok (.istore_n 3, 1) := by decide +kernel
theorem dX10_pour_37 : decode cX10_pour 37 = .ok (.iconst 0, 1) := by decide +kernel
theorem dX10_pour_38 : decode cX10_pour 38 = .ok (.istore 4, 2) := by decide +kernel
theorem dX10_pour_40 : decode cX10_pour 40 = .ok (.iload 4, 2) := by decide +kernel
theorem dX10_pour_42 : decode cX10_pour 42 = .ok (.aload_n 0, 1) := by decide +kernel
theorem dX10_pour_43 : decode cX10_pour 43 = .ok (.getfield 22, 3) := by decide +kernel
theorem dX10_pour_46 : decode cX10_pour 46 = .ok (.iload_n 1, 1) := by decide +kernel
theorem dX10_pour_47 : decode cX10_pour 47 = .ok (.iaload, 1) := by decide +kernel
theorem dX10_pour_48 : decode cX10_pour 48 = .ok (.if_icmp .ge 95, 3) := by decide +kernel
theorem dX10_pour_51 : decode cX10_pour 51 = .ok (.iload 4, 2) := by decide +kernel
theorem dX10_pour_53 : decode cX10_pour 53 = .ok (.bipush 6, 2) := by decide +kernel
theorem dX10_pour_55 : decode cX10_pour 55 = .ok (.if_icmp .ge 88, 3) := by decide +kernel
theorem dX10_pour_58 : decode cX10_pour 58 = .ok (.aload_n 0, 1) := by decide +kernel
theorem dX10_pour_59 : decode cX10_pour 59 = .ok (.getfield 25, 3) := by decide +kernel
theorem dX10_pour_62 : decode cX10_pour 62 = .ok (.bipush 24, 2) := by decide +kernel
theorem dX10_pour_64 : decode cX10_pour 64 = .ok (.iload_n 1, 1) := by decide +kernel
theorem dX10_pour_65 : decode cX10_pour 65 = .ok (.imul, 1) := by decide +kernel
theorem dX10_pour_66 : decode cX10_pour 66 = .ok (.iload 4, 2) := by decide +kernel
theorem dX10_pour_68 : decode cX10_pour 68 = .ok (.iadd, 1) := by decide +kernel
theorem dX10_pour_69 : decode cX10_pour 69 = .ok (.iaload, 1) := by decide +kernel
theorem dX10_pour_70 : decode cX10_pour 70 = .ok (.istore 5, 2) := by decide +kernel
theorem dX10_pour_72 : decode cX10_pour 72 = .ok (.aload_n 0, 1) := by decide +kernel
theorem dX10_pour_73 : decode cX10_pour 73 = .ok (.bipush 6, 2) := by decide +kernel
theorem dX10_pour_75 : decode cX10_pour 75 = .ok (.iload_n 2, 1) := by decide +kernel
theorem dX10_pour_76 : decode cX10_pour 76 = .ok (.imul, 1) := by decide +kernel
theorem dX10_pour_77 : decode cX10_pour 77 = .ok (.iload 4, 2) := by decide +kernel
theorem dX10_pour_79 : decode cX10_pour 79 = .ok (.iadd, 1) := by decide +kernel
theorem dX10_pour_80 : decode cX10_pour 80 = .ok (.iconst 2, 1) := by decide +kernel
theorem dX10_pour_81 : decode cX10_pour 81 = .ok (.invokevirtual 92, 3) := by decide +kernel
theorem dX10_pour_84 : decode cX10_pour 84 = .ok (.istore 6, 2) := by decide +kernel
theorem dX10_pour_86 : decode cX10_pour 86 = .ok (.iload 5, 2) := by decide +kernel
theorem dX10_pour_88 : decode cX10_pour 88 = .ok (.ldc 86, 2) := by decide +kernel
theorem dX10_pour_90 : decode cX10_pour 90 = .ok (.if_icmp .ne 8, 3) := by decide +kernel
theorem dX10_pour_93 : decode cX10_pour 93 = .ok (.iload 6, 2) := by decide +kernel
theorem dX10_pour_95 : decode cX10_pour 95 = .ok (.goto 11, 3) := by decide +kernel
theorem dX10_pour_98 : decode cX10_pour 98 = .ok (.iload 5, 2) := by decide +kernel
theorem dX10_pour_100 : decode cX10_pour 100 = .ok (.sipush 999, 3) := by decide +kernel
theorem dX10_pour_103 : decode cX10_pour 103 = .ok (.invokestatic 103, 3) := by decide +kernel
theorem dX10_pour_106 : decode cX10_pour 106 = .ok (.istore 7, 2) := by decide +kernel
theorem dX10_pour_108 : decode cX10_pour 108 = .ok (.aload_n 0, 1) := by decide +kernel
theorem dX10_pour_109 : decode cX10_pour 109 = .ok (.bipush 6, 2) := by decide +kernel
theorem dX10_pour_111 : decode cX10_pour 111 = .ok (.iload_n 2, 1) := by decide +kernel
theorem dX10_pour_112 : decode cX10_pour 112 = .ok (.imul, 1) := by decide +kernel
theorem dX10_pour_113 : decode cX10_pour 113 = .ok (.iload 4, 2) := by decide +kernel
theorem dX10_pour_115 : decode cX10_pour 115 = .ok (.iadd, 1) := by decide +kernel
theorem dX10_pour_116 : decode cX10_pour 116 = .ok (.iconst 2, 1) := by decide +kernel
theorem dX10_pour_117 : decode cX10_pour 117 = .ok (.iload 7, 2) := by decide +kernel
theorem dX10_pour_119 : decode cX10_pour 119 = .ok (.invokevirtual 127, 3) := by decide +kernel
theorem dX10_pour_122 : decode cX10_pour 122 = .ok (.iload_n 3, 1) := by decide +kernel
theorem dX10_pour_123 : decode cX10_pour 123 = .ok (.iload 7, 2) := by decide +kernel
theorem dX10_pour_125 : decode cX10_pour 125 = .ok (.iload 6, 2) := by decide +kernel
theorem dX10_pour_127 : decode cX10_pour 127 = .ok (.if_icmp .ne 7, 3) := by decide +kernel
theorem dX10_pour_130 : decode cX10_pour 130 = .ok (.iconst 0, 1) := by decide +kernel
theorem dX10_pour_131 : decode cX10_pour 131 = .ok (.goto 4, 3) := by decide +kernel
theorem dX10_pour_134 : decode cX10_pour 134 = .ok (.iconst 1, 1) := by decide +kernel
theorem dX10_pour_135 : decode cX10_pour 135 = .ok (.iadd, 1) := by decide +kernel
theorem dX10_pour_136 : decode cX10_pour 136 = .ok (.istore_n 3, 1) := by decide +kernel
theorem dX10_pour_137 : decode cX10_pour 137 = .ok (.iinc 4 1, 3) := by decide +kernel
theorem dX10_pour_140 : decode cX10_pour 140 = .ok (.goto (-100), 3) := by decide +kernel
theorem dX10_pour_143 : decode cX10_pour 143 = .ok (.iload_n 3, 1) := by decide +kernel
theorem dX10_pour_144 : decode cX10_pour 144 = .ok (.ireturn, 1) := by decide +kernel
theorem dX10_reads_0 : decode cX10_reads 0 = .ok (.iload_n 1, 1) := by decide +kernel
theorem dX10_reads_1 : decode cX10_reads 1 = .ok (.invokestatic 323, 3) := by decide +kernel
theorem dX10_reads_4 : decode cX10_reads 4 = .ok (.ifCond .ne 6, 3) := by decide +kernel
theorem dX10_reads_7 : decode cX10_reads 7 = .ok (.ldc 126, 2) := by decide +kernel
theorem dX10_reads_9 : decode cX10_reads 9 = .ok (.ireturn, 1) := by decide +kernel
theorem dX10_reads_10 : decode cX10_reads 10 = .ok (.aload_n 0, 1) := by decide +kernel
theorem dX10_reads_11 : decode cX10_reads 11 = .ok (.getfield 19, 3) := by decide +kernel
theorem dX10_reads_14 : decode cX10_reads 14 = .ok (.iload_n 1, 1) := by decide +kernel
theorem dX10_reads_15 : decode cX10_reads 15 = .ok (.iaload, 1) := by decide +kernel
theorem dX10_reads_16 : decode cX10_reads 16 = .ok (.ifCond .ge 7, 3) := by decide +kernel
theorem dX10_reads_19 : decode cX10_reads 19 = .ok (.ldc_w 329, 3) := by decide +kernel
theorem dX10_reads_22 : decode cX10_reads 22 = .ok (.ireturn, 1) := by decide +kernel
theorem dX10_reads_23 : decode cX10_reads 23 = .ok (.iconst 0, 1) := by decide +kernel
theorem dX10_reads_24 : decode cX10_reads 24 = .ok (.istore_n 2, 1) := by decide +kernel
theorem dX10_reads_25 : decode cX10_reads 25 = .ok (.iload_n 2, 1) := by decide +kernel
theorem dX10_reads_26 : decode cX10_reads 26 = .ok (.aload_n 0, 1) := by decide +kernel
theorem dX10_reads_27 : decode cX10_reads 27 = .ok (.getfield 22, 3) := by decide +kernel
theorem dX10_reads_30 : decode cX10_reads 30 = .ok (.iload_n 1, 1) := by decide +kernel
theorem dX10_reads_31 : decode cX10_reads 31 = .ok (.iaload, 1) := by decide +kernel
theorem dX10_reads_32 : decode cX10_reads 32 = .ok (.if_icmp .ge 38, 3) := by decide +kernel
theorem dX10_reads_35 : decode cX10_reads 35 = .ok (.aload_n 0, 1) := by decide +kernel
theorem dX10_reads_36 : decode cX10_reads 36 = .ok (.getfield 25, 3) := by decide +kernel
theorem dX10_reads_39 : decode cX10_reads 39 = .ok (.bipush 24, 2) := by decide +kernel
theorem dX10_reads_41 : decode cX10_reads 41 = .ok (.iload_n 1, 1) := by decide +kernel
theorem dX10_reads_42 : decode cX10_reads 42 = .ok (.imul, 1) := by decide +kernel
theorem dX10_reads_43 : decode cX10_reads 43 = .ok (.iload_n 2, 1) := by decide +kernel
theorem dX10_reads_44 : decode cX10_reads 44 = .ok (.iadd, 1) := by decide +kernel
theorem dX10_reads_45 : decode cX10_reads 45 = .ok (.iaload, 1) := by decide +kernel
theorem dX10_reads_46 : decode cX10_reads 46 = .ok (.istore_n 3, 1) := by decide +kernel
theorem dX10_reads_47 : decode cX10_reads 47 = .ok (.iload_n 3, 1) := by decide +kernel
theorem dX10_reads_48 : decode cX10_reads 48 = .ok (.ldc 86, 2) := by decide +kernel
theorem dX10_reads_50 : decode cX10_reads 50 = .ok (.if_icmp .eq 14, 3) := by decide +kernel
theorem dX10_reads_53 : decode cX10_reads 53 = .ok (.iload_n 3, 1) := by decide +kernel
theorem dX10_reads_54 : decode cX10_reads 54 = .ok (.aload_n 0, 1) := by decide +kernel
theorem dX10_reads_55 : decode cX10_reads 55 = .ok (.iload_n 2, 1) := by decide +kernel
theorem dX10_reads_56 : decode cX10_reads 56 = .ok (.invokevirtual 131, 3) := by decide +kernel
theorem dX10_reads_59 : decode cX10_reads 59 = .ok (.if_icmp .eq 5, 3) := by decide +kernel
theorem dX10_reads_62 : decode cX10_reads 62 = .ok (.iload_n 2, 1) := by decide +kernel
theorem dX10_reads_63 : decode cX10_reads 63 = .ok (.ireturn, 1) := by decide +kernel
theorem dX10_reads_64 : decode cX10_reads 64 = .ok (.iinc 2 1, 3) := by decide +kernel
theorem dX10_reads_67 : decode cX10_reads 67 = .ok (.goto (-42), 3) := by decide +kernel
theorem dX10_reads_70 : decode cX10_reads 70 = .ok (.ldc 86, 2) := by decide +kernel
theorem dX10_reads_72 : decode cX10_reads 72 = .ok (.ireturn, 1) := by decide +kernel
theorem dX10_copy_0 : decode cX10_copy 0 = .ok (.iload_n 1, 1) := by decide +kernel
theorem dX10_copy_1 : decode cX10_copy 1 = .ok (.invokestatic 323, 3) := by decide +kernel
theorem dX10_copy_4 : decode cX10_copy 4 = .ok (.ifCond .eq 10, 3) := by decide +kernel
theorem dX10_copy_7 : decode cX10_copy 7 = .ok (.iload_n 3, 1) := by decide +kernel
theorem dX10_copy_8 : decode cX10_copy 8 = .ok (.invokestatic 323, 3) := by decide +kernel
theorem dX10_copy_11 : decode cX10_copy 11 = .ok (.ifCond .ne 6, 3) := by decide +kernel
theorem dX10_copy_14 : decode cX10_copy 14 = .ok (.ldc 126, 2) := by decide +kernel
theorem dX10_copy_16 : decode cX10_copy 16 = .ok (.ireturn, 1) := by decide +kernel
theorem dX10_copy_17 : decode cX10_copy 17 = .ok (.aload_n 0, 1) := by decide +kernel
theorem dX10_copy_18 : decode cX10_copy 18 = .ok (.getfield 19, 3) := by decide +kernel
theorem dX10_copy_21 : decode cX10_copy 21 = .ok (.iload_n 1, 1) := by decide +kernel
theorem dX10_copy_22 : decode cX10_copy 22 = .ok (.iaload, 1) := by decide +kernel
theorem dX10_copy_23 : decode cX10_copy 23 = .ok (.ifCond .lt 12, 3) := by decide +kernel
theorem dX10_copy_26 : decode cX10_copy 26 = .ok (.aload_n 0, 1) := by decide +kernel
theorem dX10_copy_27 : decode cX10_copy 27 = .ok (.getfield 19, 3) := by decide +kernel
theorem dX10_copy_30 : decode cX10_copy 30 = .ok (.iload_n 3, 1) := by decide +kernel
theorem dX10_copy_31 : decode cX10_copy 31 = .ok (.iaload, 1) := by decide +kernel
theorem dX10_copy_32 : decode cX10_copy 32 = .ok (.ifCond .ge 7, 3) := by decide +kernel
theorem dX10_copy_35 : decode cX10_copy 35 = .ok (.ldc_w 329, 3) := by decide +kernel
theorem dX10_copy_38 : decode cX10_copy 38 = .ok (.ireturn, 1) := by decide +kernel
theorem dX10_copy_39 : decode cX10_copy 39 = .ok (.aload_n 0, 1) := by decide +kernel
theorem dX10_copy_40 : decode cX10_copy 40 = .ok (.getfield 19, 3) := by decide +kernel
theorem dX10_copy_43 : decode cX10_copy 43 = .ok (.iload_n 1, 1) := by decide +kernel
theorem dX10_copy_44 : decode cX10_copy 44 = .ok (.iaload, 1) := by decide +kernel
theorem dX10_copy_45 : decode cX10_copy 45 = .ok (.aload_n 0, 1) := by decide +kernel
theorem dX10_copy_46 : decode cX10_copy 46 = .ok (.getfield 19, 3) := by decide +kernel
theorem dX10_copy_49 : decode cX10_copy 49 = .ok (.iload_n 3, 1) := by decide +kernel
theorem dX10_copy_50 : decode cX10_copy 50 = .ok (.iaload, 1) := by decide +kernel
theorem dX10_copy_51 : decode cX10_copy 51 = .ok (.if_icmp .eq 6, 3) := by decide +kernel
theorem dX10_copy_54 : decode cX10_copy 54 = .ok (.ldc 144, 2) := by decide +kernel
theorem dX10_copy_56 : decode cX10_copy 56 = .ok (.ireturn, 1) := by decide +kernel
theorem dX10_copy_57 : decode cX10_copy 57 = .ok (.iload_n 2, 1) := by decide +kernel
theorem dX10_copy_58 : decode cX10_copy 58 = .ok (.ifCond .lt 48, 3) := by decide +kernel
theorem dX10_copy_61 : decode cX10_copy 61 = .ok (.iload 4, 2) := by decide +kernel
theorem dX10_copy_63 : decode cX10_copy 63 = .ok (.ifCond .lt 43, 3) := by decide +kernel
theorem dX10_copy_66 : decode cX10_copy 66 = .ok (.iload 5, 2) := by decide +kernel
theorem dX10_copy_68 : decode cX10_copy 68 = .ok (.ifCond .lt 38, 3) := by decide +kernel
theorem dX10_copy_71 : decode cX10_copy 71 = .ok (.iload_n 2, 1) := by decide +kernel
theorem dX10_copy_72 : decode cX10_copy 72 = .ok (.i2l, 1) := by decide +kernel
theorem dX10_copy_73 : decode cX10_copy 73 = .ok (.iload 5, 2) := by decide +kernel
theorem dX10_copy_75 : decode cX10_copy 75 = .ok (.i2l, 1) := by decide +kernel
theorem dX10_copy_76 : decode cX10_copy 76 = .ok (.ladd, 1) := by decide +kernel
theorem dX10_copy_77 : decode cX10_copy 77 = .ok (.aload_n 0, 1) := by decide +kernel
theorem dX10_copy_78 : decode cX10_copy 78 = .ok (.getfield 22, 3) := by decide +kernel
theorem dX10_copy_81 : decode cX10_copy 81 = .ok (.iload_n 1, 1) := by decide +kernel
theorem dX10_copy_82 : decode cX10_copy 82 = .ok (.iaload, 1) := by decide +kernel
theorem dX10_copy_83 : decode cX10_copy 83 = .ok (.i2l, 1) := by decide +kernel
theorem dX10_copy_84 : decode cX10_copy 84 = .ok (.lcmp, 1) := by decide +kernel
theorem dX10_copy_85 : decode cX10_copy 85 = .ok (.ifCond .gt 21, 3) := by decide +kernel
theorem dX10_copy_88 : decode cX10_copy 88 = .ok (.iload 4, 2) := by decide +kernel
theorem dX10_copy_90 : decode cX10_copy 90 = .ok (.i2l, 1) := by decide +kernel
theorem dX10_copy_91 : decode cX10_copy 91 = .ok (.iload 5, 2) := by decide +kernel
theorem dX10_copy_93 : decode cX10_copy 93 = .ok (.i2l, 1) := by decide +kernel
theorem dX10_copy_94 : decode cX10_copy 94 = .ok (.ladd, 1) := by decide +kernel
theorem dX10_copy_95 : decode cX10_copy 95 = .ok (.aload_n 0, 1) := by decide +kernel
theorem dX10_copy_96 : decode cX10_copy 96 = .ok (.getfield 22, 3) := by decide +kernel
theorem dX10_copy_99 : decode cX10_copy 99 = .ok (.iload_n 3, 1) := by decide +kernel
theorem dX10_copy_100 : decode cX10_copy 100 = .ok (.iaload, 1) := by decide +kernel
theorem dX10_copy_101 : decode cX10_copy 101 = .ok (.i2l, 1) := by decide +kernel
theorem dX10_copy_102 : decode cX10_copy 102 = .ok (.lcmp, 1) := by decide +kernel
theorem dX10_copy_103 : decode cX10_copy 103 = .ok (.ifCond .le 7, 3) := by decide +kernel
theorem dX10_copy_106 : decode cX10_copy 106 = .ok (.ldc_w 330, 3) := by decide +kernel
theorem dX10_copy_109 : decode cX10_copy 109 = .ok (.ireturn, 1) := by decide +kernel
theorem dX10_copy_110 : decode cX10_copy 110 = .ok (.iconst 0, 1) := by decide +kernel
theorem dX10_copy_111 : decode cX10_copy 111 = .ok (.istore 6, 2) := by decide +kernel
theorem dX10_copy_113 : decode cX10_copy 113 = .ok (.iload 6, 2) := by decide +kernel
theorem dX10_copy_115 : decode cX10_copy 115 = .ok (.iload 5, 2) := by decide +kernel
theorem dX10_copy_117 : decode cX10_copy 117 = .ok (.if_icmp .ge 30, 3) := by decide +kernel
theorem dX10_copy_120 : decode cX10_copy 120 = .ok (.aload_n 0, 1) := by decide +kernel
theorem dX10_copy_121 : decode cX10_copy 121 = .ok (.getfield 77, 3) := by decide +kernel
theorem dX10_copy_124 : decode cX10_copy 124 = .ok (.iload 6, 2) := by decide +kernel
theorem dX10_copy_126 : decode cX10_copy 126 = .ok (.aload_n 0, 1) := by decide +kernel
theorem dX10_copy_127 : decode cX10_copy 127 = .ok (.getfield 25, 3) := by decide +kernel
theorem dX10_copy_130 : decode cX10_copy 130 = .ok (.bipush 24, 2) := by decide +kernel
theorem dX10_copy_132 : decode cX10_copy 132 = .ok (.iload_n 1, 1) := by decide +kernel
theorem dX10_copy_133 : decode cX10_copy 133 = .ok (.imul, 1) := by decide +kernel
theorem dX10_copy_134 : decode cX10_copy 134 = .ok (.iload_n 2, 1) := by decide +kernel
theorem dX10_copy_135 : decode cX10_copy 135 = .ok (.iadd, 1) := by decide +kernel
theorem dX10_copy_136 : decode cX10_copy 136 = .ok (.iload 6, 2) := by decide +kernel
theorem dX10_copy_138 : decode cX10_copy 138 = .ok (.iadd, 1) := by decide +kernel
theorem dX10_copy_139 : decode cX10_copy 139 = .ok (.iaload, 1) := by decide +kernel
theorem dX10_copy_140 : decode cX10_copy 140 = .ok (.iastore, 1) := by decide +kernel
theorem dX10_copy_141 : decode cX10_copy 141 = .ok (.iinc 6 1, 3) := by decide +kernel
theorem dX10_copy_144 : decode cX10_copy 144 = .ok (.goto (-31), 3) := by decide +kernel
theorem dX10_copy_147 : decode cX10_copy 147 = .ok (.iconst 0, 1) := by decide +kernel
theorem dX10_copy_148 : decode cX10_copy 148 = .ok (.istore 6, 2) := by decide +kernel
theorem dX10_copy_150 : decode cX10_copy 150 = .ok (.iload 6, 2) := by decide +kernel
theorem dX10_copy_152 : decode cX10_copy 152 = .ok (.iload 5, 2) := by decide +kernel
theorem dX10_copy_154 : decode cX10_copy 154 = .ok (.if_icmp .ge 31, 3) := by decide +kernel
theorem dX10_copy_157 : decode cX10_copy 157 = .ok (.aload_n 0, 1) := by decide +kernel
theorem dX10_copy_158 : decode cX10_copy 158 = .ok (.getfield 25, 3) := by decide +kernel
theorem dX10_copy_161 : decode cX10_copy 161 = .ok (.bipush 24, 2) := by decide +kernel
theorem dX10_copy_163 : decode cX10_copy 163 = .ok (.iload_n 3, 1) := by decide +kernel
theorem dX10_copy_164 : decode cX10_copy 164 = .ok (.imul, 1) := by decide +kernel
theorem dX10_copy_165 : decode cX10_copy 165 = .ok (.iload 4, 2) := by decide +kernel
theorem dX10_copy_167 : decode cX10_copy 167 = .ok (.iadd, 1) := by decide +kernel
theorem dX10_copy_168 : decode cX10_copy 168 = .ok (.iload 6, 2) := by decide +kernel
theorem dX10_copy_170 : decode cX10_copy 170 = .ok (.iadd, 1) := by decide +kernel
theorem dX10_copy_171 : decode cX10_copy 171 = .ok (.aload_n 0, 1) := by decide +kernel
theorem dX10_copy_172 : decode cX10_copy 172 = .ok (.getfield 77, 3) := by decide +kernel
theorem dX10_copy_175 : decode cX10_copy 175 = .ok (.iload 6, 2) := by decide +kernel
theorem dX10_copy_177 : decode cX10_copy 177 = .ok (.iaload, 1) := by decide +kernel
theorem dX10_copy_178 : decode cX10_copy 178 = .ok (.iastore, 1) := by decide +kernel
theorem dX10_copy_179 : decode cX10_copy 179 = .ok (.iinc 6 1, 3) := by decide +kernel
theorem dX10_copy_182 : decode cX10_copy 182 = .ok (.goto (-32), 3) := by decide +kernel
theorem dX10_copy_185 : decode cX10_copy 185 = .ok (.iload 5, 2) := by decide +kernel
theorem dX10_copy_187 : decode cX10_copy 187 = .ok (.ireturn, 1) := by decide +kernel
theorem dX10_isSlot_0 : decode cX10_isSlot 0 = .ok (.iload_n 0, 1) := by decide +kernel
theorem dX10_isSlot_1 : decode cX10_isSlot 1 = .ok (.i2l, 1) := by decide +kernel
theorem dX10_isSlot_2 : decode cX10_isSlot 2 = .ok (.lconst 0, 1) := by decide +kernel
theorem dX10_isSlot_3 : decode cX10_isSlot 3 = .ok (.ldc2_w 190, 3) := by decide +kernel
theorem dX10_isSlot_6 : decode cX10_isSlot 6 = .ok (.invokestatic 87, 3) := by decide +kernel
theorem dX10_isSlot_9 : decode cX10_isSlot 9 = .ok (.ireturn, 1) := by decide +kernel
theorem dX10_lay_0 : decode cX10_lay 0 = .ok (.iload_n 2, 1) := by decide +kernel
theorem dX10_lay_1 : decode cX10_lay 1 = .ok (.ifCond .eq 32, 3) := by decide +kernel
theorem dX10_lay_4 : decode cX10_lay 4 = .ok (.iload_n 2, 1) := by decide +kernel
theorem dX10_lay_5 : decode cX10_lay 5 = .ok (.iconst 3, 1) := by decide +kernel
theorem dX10_lay_6 : decode cX10_lay 6 = .ok (.if_icmp .eq 27, 3) := by decide +kernel
theorem dX10_lay_9 : decode cX10_lay 9 = .ok (.iload_n 2, 1) := by decide +kernel
theorem dX10_lay_10 : decode cX10_lay 10 = .ok (.iconst 1, 1) := by decide +kernel
theorem dX10_lay_11 : decode cX10_lay 11 = .ok (.if_icmp .ne 10, 3) := by decide +kernel
theorem dX10_lay_14 : decode cX10_lay 14 = .ok (.iload_n 3, 1) := by decide +kernel
theorem dX10_lay_15 : decode cX10_lay 15 = .ok (.invokestatic 116, 3) := by decide +kernel
theorem dX10_lay_18 : decode cX10_lay 18 = .ok (.ifCond .ne 15, 3) := by decide +kernel
theorem dX10_lay_21 : decode cX10_lay 21 = .ok (.iload_n 2, 1) := by decide +kernel
theorem dX10_lay_22 : decode cX10_lay 22 = .ok (.iconst 2, 1) := by decide +kernel
theorem dX10_lay_23 : decode cX10_lay 23 = .ok (.if_icmp .ne 14, 3) := by decide +kernel
theorem dX10_lay_26 : decode cX10_lay 26 = .ok (.iload_n 3, 1) := by decide +kernel
theorem dX10_lay_27 : decode cX10_lay 27 = .ok (.invokestatic 323, 3) := by decide +kernel
theorem dX10_lay_30 : decode cX10_lay 30 = .ok (.ifCond .eq 7, 3) := by decide +kernel
theorem dX10_lay_33 : decode cX10_lay 33 = .ok (.iconst 1, 1) := by decide +kernel
theorem dX10_lay_34 : decode cX10_lay 34 = .ok (.goto 4, 3) := by decide +kernel
theorem dX10_lay_37 : decode cX10_lay 37 = .ok (.iconst 0, 1) := by decide +kernel
theorem dX10_lay_38 : decode cX10_lay 38 = .ok (.istore 4, 2) := by decide +kernel
theorem dX10_lay_40 : decode cX10_lay 40 = .ok (.iload_n 1, 1) := by decide +kernel
theorem dX10_lay_41 : decode cX10_lay 41 = .ok (.invokestatic 333, 3) := by decide +kernel
theorem dX10_lay_44 : decode cX10_lay 44 = .ok (.ifCond .eq 8, 3) := by decide +kernel
theorem dX10_lay_47 : decode cX10_lay 47 = .ok (.iload 4, 2) := by decide +kernel
theorem dX10_lay_49 : decode cX10_lay 49 = .ok (.ifCond .ne 6, 3) := by decide +kernel
theorem dX10_lay_52 : decode cX10_lay 52 = .ok (.ldc 126, 2) := by decide +kernel
theorem dX10_lay_54 : decode cX10_lay 54 = .ok (.ireturn, 1) := by decide +kernel
theorem dX10_lay_55 : decode cX10_lay 55 = .ok (.iload_n 2, 1) := by decide +kernel
theorem dX10_lay_56 : decode cX10_lay 56 = .ok (.iconst 2, 1) := by decide +kernel
theorem dX10_lay_57 : decode cX10_lay 57 = .ok (.if_icmp .ne 16, 3) := by decide +kernel
theorem dX10_lay_60 : decode cX10_lay 60 = .ok (.aload_n 0, 1) := by decide +kernel
theorem dX10_lay_61 : decode cX10_lay 61 = .ok (.getfield 19, 3) := by decide +kernel
theorem dX10_lay_64 : decode cX10_lay 64 = .ok (.iload_n 3, 1) := by decide +kernel
theorem dX10_lay_65 : decode cX10_lay 65 = .ok (.iaload, 1) := by decide +kernel
theorem dX10_lay_66 : decode cX10_lay 66 = .ok (.ifCond .ge 7, 3) := by decide +kernel
theorem dX10_lay_69 : decode cX10_lay 69 = .ok (.ldc_w 329, 3) := by decide +kernel
theorem dX10_lay_72 : decode cX10_lay 72 = .ok (.ireturn, 1) := by decide +kernel
theorem dX10_lay_73 : decode cX10_lay 73 = .ok (.aload_n 0, 1) := by decide +kernel
theorem dX10_lay_74 : decode cX10_lay 74 = .ok (.getfield 28, 3) := by decide +kernel
theorem dX10_lay_77 : decode cX10_lay 77 = .ok (.iload_n 1, 1) := by decide +kernel
theorem dX10_lay_78 : decode cX10_lay 78 = .ok (.iaload, 1) := by decide +kernel
theorem dX10_lay_79 : decode cX10_lay 79 = .ok (.istore 5, 2) := by decide +kernel
theorem dX10_lay_81 : decode cX10_lay 81 = .ok (.aload_n 0, 1) := by decide +kernel
theorem dX10_lay_82 : decode cX10_lay 82 = .ok (.getfield 28, 3) := by decide +kernel
theorem dX10_lay_85 : decode cX10_lay 85 = .ok (.iload_n 1, 1) := by decide +kernel
theorem dX10_lay_86 : decode cX10_lay 86 = .ok (.iload_n 2, 1) := by decide +kernel
theorem dX10_lay_87 : decode cX10_lay 87 = .ok (.iastore, 1) := by decide +kernel
theorem dX10_lay_88 : decode cX10_lay 88 = .ok (.aload_n 0, 1) := by decide +kernel
theorem dX10_lay_89 : decode cX10_lay 89 = .ok (.getfield 31, 3) := by decide +kernel
theorem dX10_lay_92 : decode cX10_lay 92 = .ok (.iload_n 1, 1) := by decide +kernel
theorem dX10_lay_93 : decode cX10_lay 93 = .ok (.iload_n 2, 1) := by decide +kernel
theorem dX10_lay_94 : decode cX10_lay 94 = .ok (.iconst 1, 1) := by decide +kernel
theorem dX10_lay_95 : decode cX10_lay 95 = .ok (.if_icmp .ne 12, 3) := by decide +kernel
theorem dX10_lay_98 : decode cX10_lay 98 = .ok (.aload_n 0, 1) := by decide +kernel
theorem dX10_lay_99 : decode cX10_lay 99 = .ok (.iload_n 3, 1) := by decide +kernel
theorem dX10_lay_100 : decode cX10_lay 100 = .ok (.iconst 0, 1) := by decide +kernel
theorem dX10_lay_101 : decode cX10_lay 101 = .ok (.invokevirtual 92, 3) := by decide +kernel
theorem dX10_lay_104 : decode cX10_lay 104 = .ok (.goto 4, 3) := by decide +kernel
theorem dX10_lay_107 : decode cX10_lay 107 = .ok (.iload_n 3, 1) := by decide +kernel
theorem dX10_lay_108 : decode cX10_lay 108 = .ok (.iastore, 1) := by decide +kernel
theorem dX10_lay_109 : decode cX10_lay 109 = .ok (.aload_n 0, 1) := by decide +kernel
theorem dX10_lay_110 : decode cX10_lay 110 = .ok (.getfield 34, 3) := by decide +kernel
theorem dX10_lay_113 : decode cX10_lay 113 = .ok (.iload_n 1, 1) := by decide +kernel
theorem dX10_lay_114 : decode cX10_lay 114 = .ok (.iload_n 2, 1) := by decide +kernel
theorem dX10_lay_115 : decode cX10_lay 115 = .ok (.iconst 1, 1) := by decide +kernel
theorem dX10_lay_116 : decode cX10_lay 116 = .ok (.if_icmp .ne 11, 3) := by decide +kernel
theorem dX10_lay_119 : decode cX10_lay 119 = .ok (.aload_n 0, 1) := by decide +kernel
theorem dX10_lay_120 : decode cX10_lay 120 = .ok (.iload_n 3, 1) := by decide +kernel
theorem dX10_lay_121 : decode cX10_lay 121 = .ok (.invokevirtual 137, 3) := by decide +kernel
theorem dX10_lay_124 : decode cX10_lay 124 = .ok (.goto 4, 3) := by decide +kernel
theorem dX10_lay_127 : decode cX10_lay 127 = .ok (.iconst 0, 1) := by decide +kernel
theorem dX10_lay_128 : decode cX10_lay 128 = .ok (.iastore, 1) := by decide +kernel
theorem dX10_lay_129 : decode cX10_lay 129 = .ok (.iload_n 2, 1) := by decide +kernel
theorem dX10_lay_130 : decode cX10_lay 130 = .ok (.iconst 2, 1) := by decide +kernel
theorem dX10_lay_131 : decode cX10_lay 131 = .ok (.if_icmp .ne 55, 3) := by decide +kernel
theorem dX10_lay_134 : decode cX10_lay 134 = .ok (.aload_n 0, 1) := by decide +kernel
theorem dX10_lay_135 : decode cX10_lay 135 = .ok (.getfield 37, 3) := by decide +kernel
theorem dX10_lay_138 : decode cX10_lay 138 = .ok (.iload_n 1, 1) := by decide +kernel
theorem dX10_lay_139 : decode cX10_lay 139 = .ok (.aload_n 0, 1) := by decide +kernel
theorem dX10_lay_140 : decode cX10_lay 140 = .ok (.getfield 22, 3) := by decide +kernel
theorem dX10_lay_143 : decode cX10_lay 143 = .ok (.iload_n 3, 1) := by decide +kernel
theorem dX10_lay_144 : decode cX10_lay 144 = .ok (.iaload, 1) := by decide +kernel
theorem dX10_lay_145 : decode cX10_lay 145 = .ok (.iastore, 1) := by decide +kernel
theorem dX10_lay_146 : decode cX10_lay 146 = .ok (.iconst 0, 1) := by decide +kernel
theorem dX10_lay_147 : decode cX10_lay 147 = .ok (.istore 6, 2) := by decide +kernel
theorem dX10_lay_149 : decode cX10_lay 149 = .ok (.iload 6, 2) := by decide +kernel
theorem dX10_lay_151 : decode cX10_lay 151 = .ok (.bipush 24, 2) := by decide +kernel
theorem dX10_lay_153 : decode cX10_lay 153 = .ok (.if_icmp .ge 33, 3) := by decide +kernel
theorem dX10_lay_156 : decode cX10_lay 156 = .ok (.aload_n 0, 1) := by decide +kernel
theorem dX10_lay_157 : decode cX10_lay 157 = .ok (.getfield 40, 3) := by decide +kernel
theorem dX10_lay_160 : decode cX10_lay 160 = .ok (.bipush 24, 2) := by decide +kernel
theorem dX10_lay_162 : decode cX10_lay 162 = .ok (.iload_n 1, 1) := by decide +kernel
theorem dX10_lay_163 : decode cX10_lay 163 = .ok (.imul, 1) := by decide +kernel
theorem dX10_lay_164 : decode cX10_lay 164 = .ok (.iload 6, 2) := by decide +kernel
theorem dX10_lay_166 : decode cX10_lay 166 = .ok (.iadd, 1) := by decide +kernel
theorem dX10_lay_167 : decode cX10_lay 167 = .ok (.aload_n 0, 1) := by decide +kernel
theorem dX10_lay_168 : decode cX10_lay 168 = .ok (.getfield 25, 3) := by decide +kernel
theorem dX10_lay_171 : decode cX10_lay 171 = .ok (.bipush 24, 2) := by decide +kernel
theorem dX10_lay_173 : decode cX10_lay 173 = .ok (.iload_n 3, 1) := by decide +kernel
theorem dX10_lay_174 : decode cX10_lay 174 = .ok (.imul, 1) := by decide +kernel
theorem dX10_lay_175 : decode cX10_lay 175 = .ok (.iload 6, 2) := by decide +kernel
theorem dX10_lay_177 : decode cX10_lay 177 = .ok (.iadd, 1) := by decide +kernel
theorem dX10_lay_178 : decode cX10_lay 178 = .ok (.iaload, 1) := by decide +kernel
theorem dX10_lay_179 : decode cX10_lay 179 = .ok (.iastore, 1) := by decide +kernel
theorem dX10_lay_180 : decode cX10_lay 180 = .ok (.iinc 6 1, 3) := by decide +kernel
theorem dX10_lay_183 : decode cX10_lay 183 = .ok (.goto (-34), 3) := by decide +kernel
theorem dX10_lay_186 : decode cX10_lay 186 = .ok (.iload 5, 2) := by decide +kernel
theorem dX10_lay_188 : decode cX10_lay 188 = .ok (.ireturn, 1) := by decide +kernel
theorem dX10_ask_0 : decode cX10_ask 0 = .ok (.iload_n 1, 1) := by decide +kernel
theorem dX10_ask_1 : decode cX10_ask 1 = .ok (.invokestatic 333, 3) := by decide +kernel
theorem dX10_ask_4 : decode cX10_ask 4 = .ok (.ifCond .eq 15, 3) := by decide +kernel
theorem dX10_ask_7 : decode cX10_ask 7 = .ok (.iload_n 2, 1) := by decide +kernel
theorem dX10_ask_8 : decode cX10_ask 8 = .ok (.i2l, 1) := by decide +kernel
theorem dX10_ask_9 : decode cX10_ask 9 = .ok (.lconst 0, 1) := by decide +kernel
theorem dX10_ask_10 : decode cX10_ask 10 = .ok (.ldc2_w 120, 3) := by decide +kernel
theorem dX10_ask_13 : decode cX10_ask 13 = .ok (.invokestatic 87, 3) := by decide +kernel
theorem dX10_ask_16 : decode cX10_ask 16 = .ok (.ifCond .ne 6, 3) := by decide +kernel
theorem dX10_ask_19 : decode cX10_ask 19 = .ok (.ldc 126, 2) := by decide +kernel
theorem dX10_ask_21 : decode cX10_ask 21 = .ok (.ireturn, 1) := by decide +kernel
theorem dX10_ask_22 : decode cX10_ask 22 = .ok (.aload_n 0, 1) := by decide +kernel
theorem dX10_ask_23 : decode cX10_ask 23 = .ok (.getfield 28, 3) := by decide +kernel
theorem dX10_ask_26 : decode cX10_ask 26 = .ok (.iload_n 1, 1) := by decide +kernel
theorem dX10_ask_27 : decode cX10_ask 27 = .ok (.iaload, 1) := by decide +kernel
theorem dX10_ask_28 : decode cX10_ask 28 = .ok (.ifCond .ne 7, 3) := by decide +kernel
theorem dX10_ask_31 : decode cX10_ask 31 = .ok (.ldc_w 329, 3) := by decide +kernel
theorem dX10_ask_34 : decode cX10_ask 34 = .ok (.ireturn, 1) := by decide +kernel
theorem dX10_ask_35 : decode cX10_ask 35 = .ok (.aload_n 0, 1) := by decide +kernel
theorem dX10_ask_36 : decode cX10_ask 36 = .ok (.getfield 28, 3) := by decide +kernel
theorem dX10_ask_39 : decode cX10_ask 39 = .ok (.iload_n 1, 1) := by decide +kernel
theorem dX10_ask_40 : decode cX10_ask 40 = .ok (.iaload, 1) := by decide +kernel
theorem dX10_ask_41 : decode cX10_ask 41 = .ok (.iconst 1, 1) := by decide +kernel
theorem dX10_ask_42 : decode cX10_ask 42 = .ok (.if_icmp .ne 25, 3) := by decide +kernel
theorem dX10_ask_45 : decode cX10_ask 45 = .ok (.aload_n 0, 1) := by decide +kernel
theorem dX10_ask_46 : decode cX10_ask 46 = .ok (.getfield 31, 3) := by decide +kernel
theorem dX10_ask_49 : decode cX10_ask 49 = .ok (.iload_n 1, 1) := by decide +kernel
theorem dX10_ask_50 : decode cX10_ask 50 = .ok (.iaload, 1) := by decide +kernel
theorem dX10_ask_51 : decode cX10_ask 51 = .ok (.iload_n 2, 1) := by decide +kernel
theorem dX10_ask_52 : decode cX10_ask 52 = .ok (.invokestatic 140, 3) := by decide +kernel
theorem dX10_ask_55 : decode cX10_ask 55 = .ok (.ifCond .eq 12, 3) := by decide +kernel
theorem dX10_ask_58 : decode cX10_ask 58 = .ok (.aload_n 0, 1) := by decide +kernel
theorem dX10_ask_59 : decode cX10_ask 59 = .ok (.getfield 34, 3) := by decide +kernel
theorem dX10_ask_62 : decode cX10_ask 62 = .ok (.iload_n 1, 1) := by decide +kernel
theorem dX10_ask_63 : decode cX10_ask 63 = .ok (.iaload, 1) := by decide +kernel
theorem dX10_ask_64 : decode cX10_ask 64 = .ok (.goto 5, 3) := by decide +kernel
theorem dX10_ask_67 : decode cX10_ask 67 = .ok (.ldc 144, 2) := by decide +kernel
theorem dX10_ask_69 : decode cX10_ask 69 = .ok (.ireturn, 1) := by decide +kernel
theorem dX10_item_0 : decode cX10_item 0 = .ok (.iload_n 1, 1) := by decide +kernel
theorem dX10_item_1 : decode cX10_item 1 = .ok (.invokestatic 333, 3) := by decide +kernel
theorem dX10_item_4 : decode cX10_item 4 = .ok (.ifCond .ne 6, 3) := by decide +kernel
theorem dX10_item_7 : decode cX10_item 7 = .ok (.ldc 126, 2) := by decide +kernel
theorem dX10_item_9 : decode cX10_item 9 = .ok (.ireturn, 1) := by decide +kernel
theorem dX10_item_10 : decode cX10_item 10 = .ok (.aload_n 0, 1) := by decide +kernel
theorem dX10_item_11 : decode cX10_item 11 = .ok (.getfield 28, 3) := by decide +kernel
theorem dX10_item_14 : decode cX10_item 14 = .ok (.iload_n 1, 1) := by decide +kernel
theorem dX10_item_15 : decode cX10_item 15 = .ok (.iaload, 1) := by decide +kernel
theorem dX10_item_16 : decode cX10_item 16 = .ok (.iconst 2, 1) := by decide +kernel
theorem dX10_item_17 : decode cX10_item 17 = .ok (.if_icmp .eq 21, 3) := by decide +kernel
theorem dX10_item_20 : decode cX10_item 20 = .ok (.aload_n 0, 1) := by decide +kernel
theorem dX10_item_21 : decode cX10_item 21 = .ok (.getfield 28, 3) := by decide +kernel
theorem dX10_item_24 : decode cX10_item 24 = .ok (.iload_n 1, 1) := by decide +kernel
theorem dX10_item_25 : decode cX10_item 25 = .ok (.iaload, 1) := by decide +kernel
theorem dX10_item_26 : decode cX10_item 26 = .ok (.ifCond .ne 9, 3) := by decide +kernel
theorem dX10_item_29 : decode cX10_item 29 = .ok (.ldc_w 329, 3) := by decide +kernel
theorem dX10_item_32 : decode cX10_item 32 = .ok (.goto 5, 3) := by decide +kernel
theorem dX10_item_35 : decode cX10_item 35 = .ok (.ldc 144, 2) := by decide +kernel
theorem dX10_item_37 : decode cX10_item 37 = .ok (.ireturn, 1) := by decide +kernel
theorem dX10_item_38 : decode cX10_item 38 = .ok (.iload_n 2, 1) := by decide +kernel
theorem dX10_item_39 : decode cX10_item 39 = .ok (.i2l, 1) := by decide +kernel
theorem dX10_item_40 : decode cX10_item 40 = .ok (.lconst 0, 1) := by decide +kernel
theorem dX10_item_41 : decode cX10_item 41 = .ok (.aload_n 0, 1) := by decide +kernel
theorem dX10_item_42 : decode cX10_item 42 = .ok (.getfield 37, 3) := by decide +kernel
theorem dX10_item_45 : decode cX10_item 45 = .ok (.iload_n 1, 1) := by decide +kernel
theorem dX10_item_46 : decode cX10_item 46 = .ok (.iaload, 1) := by decide +kernel
theorem dX10_item_47 : decode cX10_item 47 = .ok (.iconst 1, 1) := by decide +kernel
theorem dX10_item_48 : decode cX10_item 48 = .ok (.isub, 1) := by decide +kernel
theorem dX10_item_49 : decode cX10_item 49 = .ok (.i2l, 1) := by decide +kernel
theorem dX10_item_50 : decode cX10_item 50 = .ok (.invokestatic 87, 3) := by decide +kernel
theorem dX10_item_53 : decode cX10_item 53 = .ok (.ifCond .ne 7, 3) := by decide +kernel
theorem dX10_item_56 : decode cX10_item 56 = .ok (.ldc_w 330, 3) := by decide +kernel
theorem dX10_item_59 : decode cX10_item 59 = .ok (.ireturn, 1) := by decide +kernel
theorem dX10_item_60 : decode cX10_item 60 = .ok (.aload_n 0, 1) := by decide +kernel
theorem dX10_item_61 : decode cX10_item 61 = .ok (.getfield 40, 3) := by decide +kernel
theorem dX10_item_64 : decode cX10_item 64 = .ok (.bipush 24, 2) := by decide +kernel
theorem dX10_item_66 : decode cX10_item 66 = .ok (.iload_n 1, 1) := by decide +kernel
theorem dX10_item_67 : decode cX10_item 67 = .ok (.imul, 1) := by decide +kernel
theorem dX10_item_68 : decode cX10_item 68 = .ok (.iload_n 2, 1) := by decide +kernel
theorem dX10_item_69 : decode cX10_item 69 = .ok (.iadd, 1) := by decide +kernel
theorem dX10_item_70 : decode cX10_item 70 = .ok (.iaload, 1) := by decide +kernel
theorem dX10_item_71 : decode cX10_item 71 = .ok (.istore_n 3, 1) := by decide +kernel
theorem dX10_item_72 : decode cX10_item 72 = .ok (.iload_n 3, 1) := by decide +kernel
theorem dX10_item_73 : decode cX10_item 73 = .ok (.ldc 86, 2) := by decide +kernel
theorem dX10_item_75 : decode cX10_item 75 = .ok (.if_icmp .ne 8, 3) := by decide +kernel
theorem dX10_item_78 : decode cX10_item 78 = .ok (.ldc 144, 2) := by decide +kernel
theorem dX10_item_80 : decode cX10_item 80 = .ok (.goto 4, 3) := by decide +kernel
theorem dX10_item_83 : decode cX10_item 83 = .ok (.iload_n 3, 1) := by decide +kernel
theorem dX10_item_84 : decode cX10_item 84 = .ok (.ireturn, 1) := by decide +kernel
theorem dX10_rest_0 : decode cX10_rest 0 = .ok (.iload_n 1, 1) := by decide +kernel
theorem dX10_rest_1 : decode cX10_rest 1 = .ok (.invokestatic 333, 3) := by decide +kernel
theorem dX10_rest_4 : decode cX10_rest 4 = .ok (.ifCond .ne 6, 3) := by decide +kernel
theorem dX10_rest_7 : decode cX10_rest 7 = .ok (.ldc 126, 2) := by decide +kernel
theorem dX10_rest_9 : decode cX10_rest 9 = .ok (.ireturn, 1) := by decide +kernel
theorem dX10_rest_10 : decode cX10_rest 10 = .ok (.aload_n 0, 1) := by decide +kernel
theorem dX10_rest_11 : decode cX10_rest 11 = .ok (.getfield 28, 3) := by decide +kernel
theorem dX10_rest_14 : decode cX10_rest 14 = .ok (.iload_n 1, 1) := by decide +kernel
theorem dX10_rest_15 : decode cX10_rest 15 = .ok (.iaload, 1) := by decide +kernel
theorem dX10_rest_16 : decode cX10_rest 16 = .ok (.iconst 3, 1) := by decide +kernel
theorem dX10_rest_17 : decode cX10_rest 17 = .ok (.if_icmp .eq 21, 3) := by decide +kernel
theorem dX10_rest_20 : decode cX10_rest 20 = .ok (.aload_n 0, 1) := by decide +kernel
theorem dX10_rest_21 : decode cX10_rest 21 = .ok (.getfield 28, 3) := by decide +kernel
theorem dX10_rest_24 : decode cX10_rest 24 = .ok (.iload_n 1, 1) := by decide +kernel
theorem dX10_rest_25 : decode cX10_rest 25 = .ok (.iaload, 1) := by decide +kernel
theorem dX10_rest_26 : decode cX10_rest 26 = .ok (.ifCond .ne 9, 3) := by decide +kernel
theorem dX10_rest_29 : decode cX10_rest 29 = .ok (.ldc_w 329, 3) := by decide +kernel
theorem dX10_rest_32 : decode cX10_rest 32 = .ok (.goto 5, 3) := by decide +kernel
theorem dX10_rest_35 : decode cX10_rest 35 = .ok (.ldc 144, 2) := by decide +kernel
theorem dX10_rest_37 : decode cX10_rest 37 = .ok (.ireturn, 1) := by decide +kernel
theorem dX10_rest_38 : decode cX10_rest 38 = .ok (.iload_n 2, 1) := by decide +kernel
theorem dX10_rest_39 : decode cX10_rest 39 = .ok (.ifCond .ne 8, 3) := by decide +kernel
theorem dX10_rest_42 : decode cX10_rest 42 = .ok (.ldc 188, 2) := by decide +kernel
theorem dX10_rest_44 : decode cX10_rest 44 = .ok (.goto 11, 3) := by decide +kernel
theorem dX10_rest_47 : decode cX10_rest 47 = .ok (.aload_n 0, 1) := by decide +kernel
theorem dX10_rest_48 : decode cX10_rest 48 = .ok (.getfield 31, 3) := by decide +kernel
theorem dX10_rest_51 : decode cX10_rest 51 = .ok (.iload_n 1, 1) := by decide +kernel
theorem dX10_rest_52 : decode cX10_rest 52 = .ok (.iaload, 1) := by decide +kernel
theorem dX10_rest_53 : decode cX10_rest 53 = .ok (.iload_n 2, 1) := by decide +kernel
theorem dX10_rest_54 : decode cX10_rest 54 = .ok (.irem, 1) := by decide +kernel
theorem dX10_rest_55 : decode cX10_rest 55 = .ok (.ireturn, 1) := by decide +kernel
theorem dX10_tell_0 : decode cX10_tell 0 = .ok (.aload_n 0, 1) := by decide +kernel
theorem dX10_tell_1 : decode cX10_tell 1 = .ok (.getfield 336, 3) := by decide +kernel
theorem dX10_tell_4 : decode cX10_tell 4 = .ok (.bipush 60, 2) := by decide +kernel
theorem dX10_tell_6 : decode cX10_tell 6 = .ok (.if_icmp .ne 6, 3) := by decide +kernel
theorem dX10_tell_9 : decode cX10_tell 9 = .ok (.ldc 189, 2) := by decide +kernel
theorem dX10_tell_11 : decode cX10_tell 11 = .ok (.ireturn, 1) := by decide +kernel
theorem dX10_tell_12 : decode cX10_tell 12 = .ok (.aload_n 0, 1) := by decide +kernel
theorem dX10_tell_13 : decode cX10_tell 13 = .ok (.getfield 80, 3) := by decide +kernel
theorem dX10_tell_16 : decode cX10_tell 16 = .ok (.aload_n 0, 1) := by decide +kernel
theorem dX10_tell_17 : decode cX10_tell 17 = .ok (.getfield 336, 3) := by decide +kernel
theorem dX10_tell_20 : decode cX10_tell 20 = .ok (.iload_n 1, 1) := by decide +kernel
theorem dX10_tell_21 : decode cX10_tell 21 = .ok (.iastore, 1) := by decide +kernel
theorem dX10_tell_22 : decode cX10_tell 22 = .ok (.aload_n 0, 1) := by decide +kernel
theorem dX10_tell_23 : decode cX10_tell 23 = .ok (.dup, 1) := by decide +kernel
theorem dX10_tell_24 : decode cX10_tell 24 = .ok (.getfield 336, 3) := by decide +kernel
theorem dX10_tell_27 : decode cX10_tell 27 = .ok (.iconst 1, 1) := by decide +kernel
theorem dX10_tell_28 : decode cX10_tell 28 = .ok (.iadd, 1) := by decide +kernel
theorem dX10_tell_29 : decode cX10_tell 29 = .ok (.putfield 336, 3) := by decide +kernel
theorem dX10_tell_32 : decode cX10_tell 32 = .ok (.aload_n 0, 1) := by decide +kernel
theorem dX10_tell_33 : decode cX10_tell 33 = .ok (.getfield 336, 3) := by decide +kernel
theorem dX10_tell_36 : decode cX10_tell 36 = .ok (.ireturn, 1) := by decide +kernel
theorem dX10_setAside_0 : decode cX10_setAside 0 = .ok (.iconst 0, 1) := by decide +kernel
theorem dX10_setAside_1 : decode cX10_setAside 1 = .ok (.istore_n 3, 1) := by decide +kernel
theorem dX10_setAside_2 : decode cX10_setAside 2 = .ok (.iload_n 3, 1) := by decide +kernel
theorem dX10_setAside_3 : decode cX10_setAside 3 = .ok (.sipush 2922, 3) := by decide +kernel
theorem dX10_setAside_6 : decode cX10_setAside 6 = .ok (.if_icmp .ge 15, 3) := by decide +kernel
theorem dX10_setAside_9 : decode cX10_setAside 9 = .ok (.aload_n 2, 1) := by decide +kernel
theorem dX10_setAside_10 : decode cX10_setAside 10 = .ok (.iload_n 3, 1) := by decide +kernel
theorem dX10_setAside_11 : decode cX10_setAside 11 = .ok (.aload_n 1, 1) := by decide +kernel
theorem dX10_setAside_12 : decode cX10_setAside 12 = .ok (.iload_n 3, 1) := by decide +kernel
theorem dX10_setAside_13 : decode cX10_setAside 13 = .ok (.iaload, 1) := by decide +kernel
theorem dX10_setAside_14 : decode cX10_setAside 14 = .ok (.iastore, 1) := by decide +kernel
theorem dX10_setAside_15 : decode cX10_setAside 15 = .ok (.iinc 3 1, 3) := by decide +kernel
theorem dX10_setAside_18 : decode cX10_setAside 18 = .ok (.goto (-16), 3) := by decide +kernel
theorem dX10_setAside_21 : decode cX10_setAside 21 = .ok (.return_, 1) := by decide +kernel
theorem dX10_check_0 : decode cX10_check 0 = .ok (.aload_n 0, 1) := by decide +kernel
theorem dX10_check_1 : decode cX10_check 1 = .ok (.getfield 336, 3) := by decide +kernel
theorem dX10_check_4 : decode cX10_check 4 = .ok (.istore_n 2, 1) := by decide +kernel
theorem dX10_check_5 : decode cX10_check 5 = .ok (.aload_n 0, 1) := by decide +kernel
theorem dX10_check_6 : decode cX10_check 6 = .ok (.iconst 0, 1) := by decide +kernel
theorem dX10_check_7 : decode cX10_check 7 = .ok (.putfield 336, 3) := by decide +kernel
theorem dX10_check_10 : decode cX10_check 10 = .ok (.iload_n 1, 1) := by decide +kernel
theorem dX10_check_11 : decode cX10_check 11 = .ok (.i2l, 1) := by decide +kernel
theorem dX10_check_12 : decode cX10_check 12 = .ok (.lconst 1, 1) := by decide +kernel
theorem dX10_check_13 : decode cX10_check 13 = .ok (.ldc2_w 339, 3) := by decide +kernel
theorem dX10_check_16 : decode cX10_check 16 = .ok (.invokestatic 87, 3) := by decide +kernel
theorem dX10_check_19 : decode cX10_check 19 = .ok (.ifCond .ne 6, 3) := by decide +kernel
theorem dX10_check_22 : decode cX10_check 22 = .ok (.ldc 126, 2) := by decide +kernel
theorem dX10_check_24 : decode cX10_check 24 = .ok (.ireturn, 1) := by decide +kernel
theorem dX10_check_25 : decode cX10_check 25 = .ok (.aload_n 0, 1) := by decide +kernel
theorem dX10_check_26 : decode cX10_check 26 = .ok (.getfield 341, 3) := by decide +kernel
theorem dX10_check_29 : decode cX10_check 29 = .ok (.ifCond .ne 6, 3) := by decide +kernel
theorem dX10_check_32 : decode cX10_check 32 = .ok (.ldc 188, 2) := by decide +kernel
theorem dX10_check_34 : decode cX10_check 34 = .ok (.ireturn, 1) := by decide +kernel
theorem dX10_check_35 : decode cX10_check 35 = .ok (.aload_n 0, 1) := by decide +kernel
theorem dX10_check_36 : decode cX10_check 36 = .ok (.aload_n 0, 1) := by decide +kernel
theorem dX10_check_37 : decode cX10_check 37 = .ok (.getfield 7, 3) := by decide +kernel
theorem dX10_check_40 : decode cX10_check 40 = .ok (.aload_n 0, 1) := by decide +kernel
theorem dX10_check_41 : decode cX10_check 41 = .ok (.getfield 16, 3) := by decide +kernel
theorem dX10_check_44 : decode cX10_check 44 = .ok (.invokevirtual 345, 3) := by decide +kernel
theorem dX10_check_47 : decode cX10_check 47 = .ok (.aload_n 0, 1) := by decide +kernel
theorem dX10_check_48 : decode cX10_check 48 = .ok (.aload_n 0, 1) := by decide +kernel
theorem dX10_check_49 : decode cX10_check 49 = .ok (.getfield 13, 3) := by decide +kernel
theorem dX10_check_52 : decode cX10_check 52 = .ok (.aload_n 0, 1) := by decide +kernel
theorem dX10_check_53 : decode cX10_check 53 = .ok (.getfield 7, 3) := by decide +kernel
theorem dX10_check_56 : decode cX10_check 56 = .ok (.invokevirtual 345, 3) := by decide +kernel
theorem dX10_check_59 : decode cX10_check 59 = .ok (.iconst 0, 1) := by decide +kernel
theorem dX10_check_60 : decode cX10_check 60 = .ok (.istore_n 3, 1) := by decide +kernel
theorem dX10_check_61 : decode cX10_check 61 = .ok (.iload_n 3, 1) := by decide +kernel
theorem dX10_check_62 : decode cX10_check 62 = .ok (.iload_n 1, 1) := by decide +kernel
theorem dX10_check_63 : decode cX10_check 63 = .ok (.if_icmp .ge 35, 3) := by decide +kernel
theorem dX10_check_66 : decode cX10_check 66 = .ok (.aload_n 0, 1) := by decide +kernel
theorem dX10_check_67 : decode cX10_check 67 = .ok (.getfield 83, 3) := by decide +kernel
theorem dX10_check_70 : decode cX10_check 70 = .ok (.iconst 2, 1) := by decide +kernel
theorem dX10_check_71 : decode cX10_check 71 = .ok (.iload_n 3, 1) := by decide +kernel
theorem dX10_check_72 : decode cX10_check 72 = .ok (.imul, 1) := by decide +kernel
theorem dX10_check_73 : decode cX10_check 73 = .ok (.aload_n 0, 1) := by decide +kernel
theorem dX10_check_74 : decode cX10_check 74 = .ok (.invokevirtual 163, 3) := by decide +kernel
theorem dX10_check_77 : decode cX10_check 77 = .ok (.iastore, 1) := by decide +kernel
theorem dX10_check_78 : decode cX10_check 78 = .ok (.aload_n 0, 1) := by decide +kernel
theorem dX10_check_79 : decode cX10_check 79 = .ok (.getfield 83, 3) := by decide +kernel
theorem dX10_check_82 : decode cX10_check 82 = .ok (.iconst 2, 1) := by decide +kernel
theorem dX10_check_83 : decode cX10_check 83 = .ok (.iload_n 3, 1) := by decide +kernel
theorem dX10_check_84 : decode cX10_check 84 = .ok (.imul, 1) := by decide +kernel
theorem dX10_check_85 : decode cX10_check 85 = .ok (.iconst 1, 1) := by decide +kernel
theorem dX10_check_86 : decode cX10_check 86 = .ok (.iadd, 1) := by decide +kernel
theorem dX10_check_87 : decode cX10_check 87 = .ok (.aload_n 0, 1) := by decide +kernel
theorem dX10_check_88 : decode cX10_check 88 = .ok (.invokevirtual 157, 3) := by decide +kernel
theorem dX10_check_91 : decode cX10_check 91 = .ok (.iastore, 1) := by decide +kernel
theorem dX10_check_92 : decode cX10_check 92 = .ok (.iinc 3 1, 3) := by decide +kernel
theorem dX10_check_95 : decode cX10_check 95 = .ok (.goto (-34), 3) := by decide +kernel
theorem dX10_check_98 : decode cX10_check 98 = .ok (.aload_n 0, 1) := by decide +kernel
theorem dX10_check_99 : decode cX10_check 99 = .ok (.aload_n 0, 1) := by decide +kernel
theorem dX10_check_100 : decode cX10_check 100 = .ok (.getfield 16, 3) := by decide +kernel
theorem dX10_check_103 : decode cX10_check 103 = .ok (.aload_n 0, 1) := by decide +kernel
theorem dX10_check_104 : decode cX10_check 104 = .ok (.getfield 7, 3) := by decide +kernel
theorem dX10_check_107 : decode cX10_check 107 = .ok (.invokevirtual 345, 3) := by decide +kernel
theorem dX10_check_110 : decode cX10_check 110 = .ok (.iconst 0, 1) := by decide +kernel
theorem dX10_check_111 : decode cX10_check 111 = .ok (.istore_n 3, 1) := by decide +kernel
theorem dX10_check_112 : decode cX10_check 112 = .ok (.iload_n 3, 1) := by decide +kernel
theorem dX10_check_113 : decode cX10_check 113 = .ok (.iload_n 2, 1) := by decide +kernel
theorem dX10_check_114 : decode cX10_check 114 = .ok (.if_icmp .ge 31, 3) := by decide +kernel
theorem dX10_check_117 : decode cX10_check 117 = .ok (.iload_n 3, 1) := by decide +kernel
theorem dX10_check_118 : decode cX10_check 118 = .ok (.iconst 2, 1) := by decide +kernel
theorem dX10_check_119 : decode cX10_check 119 = .ok (.iload_n 1, 1) := by decide +kernel
theorem dX10_check_120 : decode cX10_check 120 = .ok (.imul, 1) := by decide +kernel
theorem dX10_check_121 : decode cX10_check 121 = .ok (.if_icmp .ge 24, 3) := by decide +kernel
theorem dX10_check_124 : decode cX10_check 124 = .ok (.aload_n 0, 1) := by decide +kernel
theorem dX10_check_125 : decode cX10_check 125 = .ok (.getfield 80, 3) := by decide +kernel
theorem dX10_check_128 : decode cX10_check 128 = .ok (.iload_n 3, 1) := by decide +kernel
theorem dX10_check_129 : decode cX10_check 129 = .ok (.iaload, 1) := by decide +kernel
theorem dX10_check_130 : decode cX10_check 130 = .ok (.aload_n 0, 1) := by decide +kernel
theorem dX10_check_131 : decode cX10_check 131 = .ok (.getfield 83, 3) := by decide +kernel
theorem dX10_check_134 : decode cX10_check 134 = .ok (.iload_n 3, 1) := by decide +kernel
theorem dX10_check_135 : decode cX10_check 135 = .ok (.iaload, 1) := by decide +kernel
theorem dX10_check_136 : decode cX10_check 136 = .ok (.if_icmp .ne 9, 3) := by decide +kernel
theorem dX10_check_139 : decode cX10_check 139 = .ok (.iinc 3 1, 3) := by decide +kernel
theorem dX10_check_142 : decode cX10_check 142 = .ok (.goto (-30), 3) := by decide +kernel
theorem dX10_check_145 : decode cX10_check 145 = .ok (.iload_n 3, 1) := by decide +kernel
theorem dX10_check_146 : decode cX10_check 146 = .ok (.iload_n 2, 1) := by decide +kernel
theorem dX10_check_147 : decode cX10_check 147 = .ok (.if_icmp .ne 14, 3) := by decide +kernel
theorem dX10_check_150 : decode cX10_check 150 = .ok (.iload_n 3, 1) := by decide +kernel
theorem dX10_check_151 : decode cX10_check 151 = .ok (.iconst 2, 1) := by decide +kernel
theorem dX10_check_152 : decode cX10_check 152 = .ok (.iload_n 1, 1) := by decide +kernel
theorem dX10_check_153 : decode cX10_check 153 = .ok (.imul, 1) := by decide +kernel
theorem dX10_check_154 : decode cX10_check 154 = .ok (.if_icmp .ne 7, 3) := by decide +kernel
theorem dX10_check_157 : decode cX10_check 157 = .ok (.iconst 0, 1) := by decide +kernel
theorem dX10_check_158 : decode cX10_check 158 = .ok (.goto 6, 3) := by decide +kernel
theorem dX10_check_161 : decode cX10_check 161 = .ok (.iconst 1, 1) := by decide +kernel
theorem dX10_check_162 : decode cX10_check 162 = .ok (.iload_n 3, 1) := by decide +kernel
theorem dX10_check_163 : decode cX10_check 163 = .ok (.iadd, 1) := by decide +kernel
theorem dX10_check_164 : decode cX10_check 164 = .ok (.ireturn, 1) := by decide +kernel
theorem dX10_keep_0 : decode cX10_keep 0 = .ok (.aload_n 0, 1) := by decide +kernel
theorem dX10_keep_1 : decode cX10_keep 1 = .ok (.iconst 1, 1) := by decide +kernel
theorem dX10_keep_2 : decode cX10_keep 2 = .ok (.putfield 341, 3) := by decide +kernel
theorem dX10_keep_5 : decode cX10_keep 5 = .ok (.aload_n 0, 1) := by decide +kernel
theorem dX10_keep_6 : decode cX10_keep 6 = .ok (.aload_n 0, 1) := by decide +kernel
theorem dX10_keep_7 : decode cX10_keep 7 = .ok (.getfield 7, 3) := by decide +kernel
theorem dX10_keep_10 : decode cX10_keep 10 = .ok (.aload_n 0, 1) := by decide +kernel
theorem dX10_keep_11 : decode cX10_keep 11 = .ok (.getfield 13, 3) := by decide +kernel
theorem dX10_keep_14 : decode cX10_keep 14 = .ok (.invokevirtual 345, 3) := by decide +kernel
theorem dX10_keep_17 : decode cX10_keep 17 = .ok (.aload_n 0, 1) := by decide +kernel
theorem dX10_keep_18 : decode cX10_keep 18 = .ok (.invokevirtual 157, 3) := by decide +kernel
theorem dX10_keep_21 : decode cX10_keep 21 = .ok (.ireturn, 1) := by decide +kernel
theorem dX10_back_0 : decode cX10_back 0 = .ok (.aload_n 0, 1) := by decide +kernel
theorem dX10_back_1 : decode cX10_back 1 = .ok (.getfield 341, 3) := by decide +kernel
theorem dX10_back_4 : decode cX10_back 4 = .ok (.ifCond .ne 6, 3) := by decide +kernel
theorem dX10_back_7 : decode cX10_back 7 = .ok (.ldc 188, 2) := by decide +kernel
theorem dX10_back_9 : decode cX10_back 9 = .ok (.ireturn, 1) := by decide +kernel
theorem dX10_back_10 : decode cX10_back 10 = .ok (.aload_n 0, 1) := by decide +kernel
theorem dX10_back_11 : decode cX10_back 11 = .ok (.aload_n 0, 1) := by decide +kernel
theorem dX10_back_12 : decode cX10_back 12 = .ok (.getfield 13, 3) := by decide +kernel
theorem dX10_back_15 : decode cX10_back 15 = .ok (.aload_n 0, 1) := by decide +kernel
theorem dX10_back_16 : decode cX10_back 16 = .ok (.getfield 7, 3) := by decide +kernel
theorem dX10_back_19 : decode cX10_back 19 = .ok (.invokevirtual 345, 3) := by decide +kernel
theorem dX10_back_22 : decode cX10_back 22 = .ok (.aload_n 0, 1) := by decide +kernel
theorem dX10_back_23 : decode cX10_back 23 = .ok (.invokevirtual 157, 3) := by decide +kernel
theorem dX10_back_26 : decode cX10_back 26 = .ok (.ireturn, 1) := by decide +kernel
theorem dX10_count_0 : decode cX10_count 0 = .ok (.iload_n 1, 1) := by decide +kernel
theorem dX10_count_1 : decode cX10_count 1 = .ok (.tableswitch 120 0 9 #[55, 60, 67, 74, 81, 88, 95, 102, 107, 112], 55) := by decide +kernel
theorem dX10_count_56 : decode cX10_count 56 = .ok (.aload_n 0, 1) := by decide +kernel
theorem dX10_count_57 : decode cX10_count 57 = .ok (.invokevirtual 157, 3) := by decide +kernel
theorem dX10_count_60 : decode cX10_count 60 = .ok (.ireturn, 1) := by decide +kernel
theorem dX10_count_61 : decode cX10_count 61 = .ok (.aload_n 0, 1) := by decide +kernel
theorem dX10_count_62 : decode cX10_count 62 = .ok (.getfield 7, 3) := by decide +kernel
theorem dX10_count_65 : decode cX10_count 65 = .ok (.iconst 5, 1) := by decide +kernel
theorem dX10_count_66 : decode cX10_count 66 = .ok (.iaload, 1) := by decide +kernel
theorem dX10_count_67 : decode cX10_count 67 = .ok (.ireturn, 1) := by decide +kernel
theorem dX10_count_68 : decode cX10_count 68 = .ok (.aload_n 0, 1) := by decide +kernel
theorem dX10_count_69 : decode cX10_count 69 = .ok (.getfield 7, 3) := by decide +kernel
theorem dX10_count_72 : decode cX10_count 72 = .ok (.iconst 2, 1) := by decide +kernel
theorem dX10_count_73 : decode cX10_count 73 = .ok (.iaload, 1) := by decide +kernel
theorem dX10_count_74 : decode cX10_count 74 = .ok (.ireturn, 1) := by decide +kernel
theorem dX10_count_75 : decode cX10_count 75 = .ok (.aload_n 0, 1) := by decide +kernel
theorem dX10_count_76 : decode cX10_count 76 = .ok (.getfield 7, 3) := by decide +kernel
theorem dX10_count_79 : decode cX10_count 79 = .ok (.iconst 3, 1) := by decide +kernel
theorem dX10_count_80 : decode cX10_count 80 = .ok (.iaload, 1) := by decide +kernel
theorem dX10_count_81 : decode cX10_count 81 = .ok (.ireturn, 1) := by decide +kernel
theorem dX10_count_82 : decode cX10_count 82 = .ok (.aload_n 0, 1) := by decide +kernel
theorem dX10_count_83 : decode cX10_count 83 = .ok (.getfield 7, 3) := by decide +kernel
theorem dX10_count_86 : decode cX10_count 86 = .ok (.iconst 4, 1) := by decide +kernel
theorem dX10_count_87 : decode cX10_count 87 = .ok (.iaload, 1) := by decide +kernel
theorem dX10_count_88 : decode cX10_count 88 = .ok (.ireturn, 1) := by decide +kernel
theorem dX10_count_89 : decode cX10_count 89 = .ok (.aload_n 0, 1) := by decide +kernel
theorem dX10_count_90 : decode cX10_count 90 = .ok (.getfield 7, 3) := by decide +kernel
theorem dX10_count_93 : decode cX10_count 93 = .ok (.iconst 0, 1) := by decide +kernel
theorem dX10_count_94 : decode cX10_count 94 = .ok (.iaload, 1) := by decide +kernel
theorem dX10_count_95 : decode cX10_count 95 = .ok (.ireturn, 1) := by decide +kernel
theorem dX10_count_96 : decode cX10_count 96 = .ok (.aload_n 0, 1) := by decide +kernel
theorem dX10_count_97 : decode cX10_count 97 = .ok (.getfield 7, 3) := by decide +kernel
theorem dX10_count_100 : decode cX10_count 100 = .ok (.iconst 1, 1) := by decide +kernel
theorem dX10_count_101 : decode cX10_count 101 = .ok (.iaload, 1) := by decide +kernel
theorem dX10_count_102 : decode cX10_count 102 = .ok (.ireturn, 1) := by decide +kernel
theorem dX10_count_103 : decode cX10_count 103 = .ok (.aload_n 0, 1) := by decide +kernel
theorem dX10_count_104 : decode cX10_count 104 = .ok (.getfield 336, 3) := by decide +kernel
theorem dX10_count_107 : decode cX10_count 107 = .ok (.ireturn, 1) := by decide +kernel
theorem dX10_count_108 : decode cX10_count 108 = .ok (.aload_n 0, 1) := by decide +kernel
theorem dX10_count_109 : decode cX10_count 109 = .ok (.getfield 223, 3) := by decide +kernel
theorem dX10_count_112 : decode cX10_count 112 = .ok (.ireturn, 1) := by decide +kernel
theorem dX10_count_113 : decode cX10_count 113 = .ok (.aload_n 0, 1) := by decide +kernel
theorem dX10_count_114 : decode cX10_count 114 = .ok (.getfield 7, 3) := by decide +kernel
theorem dX10_count_117 : decode cX10_count 117 = .ok (.bipush 6, 2) := by decide +kernel
theorem dX10_count_119 : decode cX10_count 119 = .ok (.iaload, 1) := by decide +kernel
theorem dX10_count_120 : decode cX10_count 120 = .ok (.ireturn, 1) := by decide +kernel
theorem dX10_count_121 : decode cX10_count 121 = .ok (.ldc 126, 2) := by decide +kernel
theorem dX10_count_123 : decode cX10_count 123 = .ok (.ireturn, 1) := by decide +kernel
theorem dJ9_max_7cf53_0 : decode cJ9_max_7cf53 0 = .ok (.iload_n 0, 1) := by decide +kernel
theorem dJ9_max_7cf53_1 : decode cJ9_max_7cf53 1 = .ok (.iload_n 1, 1) := by decide +kernel
theorem dJ9_max_7cf53_2 : decode cJ9_max_7cf53 2 = .ok (.if_icmp .lt 7, 3) := by decide +kernel
theorem dJ9_max_7cf53_5 : decode cJ9_max_7cf53 5 = .ok (.iload_n 0, 1) := by decide +kernel
theorem dJ9_max_7cf53_6 : decode cJ9_max_7cf53 6 = .ok (.goto 4, 3) := by decide +kernel
theorem dJ9_max_7cf53_9 : decode cJ9_max_7cf53 9 = .ok (.iload_n 1, 1) := by decide +kernel
theorem dJ9_max_7cf53_10 : decode cJ9_max_7cf53 10 = .ok (.ireturn, 1) := by decide +kernel
theorem dJ9_min_7cf53_0 : decode cJ9_min_7cf53 0 = .ok (.iload_n 0, 1) := by decide +kernel
theorem dJ9_min_7cf53_1 : decode cJ9_min_7cf53 1 = .ok (.iload_n 1, 1) := by decide +kernel
theorem dJ9_min_7cf53_2 : decode cJ9_min_7cf53 2 = .ok (.if_icmp .gt 7, 3) := by decide +kernel
theorem dJ9_min_7cf53_5 : decode cJ9_min_7cf53 5 = .ok (.iload_n 0, 1) := by decide +kernel
theorem dJ9_min_7cf53_6 : decode cJ9_min_7cf53 6 = .ok (.goto 4, 3) := by decide +kernel
theorem dJ9_min_7cf53_9 : decode cJ9_min_7cf53 9 = .ok (.iload_n 1, 1) := by decide +kernel
theorem dJ9_min_7cf53_10 : decode cJ9_min_7cf53 10 = .ok (.ireturn, 1) := by decide +kernel
theorem dJ0_length_8abf5_0 : decode cJ0_length_8abf5 0 = .ok (.aload_n 0, 1) := by decide +kernel
theorem dJ0_length_8abf5_1 : decode cJ0_length_8abf5 1 = .ok (.getfield 9, 3) := by decide +kernel
theorem dJ0_length_8abf5_4 : decode cJ0_length_8abf5 4 = .ok (.arraylength, 1) := by decide +kernel
theorem dJ0_length_8abf5_5 : decode cJ0_length_8abf5 5 = .ok (.aload_n 0, 1) := by decide +kernel
theorem dJ0_length_8abf5_6 : decode cJ0_length_8abf5 6 = .ok (.invokevirtual 335, 3) := by decide +kernel
theorem dJ0_length_8abf5_9 : decode cJ0_length_8abf5 9 = .ok (.ishr, 1) := by decide +kernel
theorem dJ0_length_8abf5_10 : decode cJ0_length_8abf5 10 = .ok (.ireturn, 1) := by decide +kernel
theorem dJ0_charAt_5068e_0 : decode cJ0_charAt_5068e 0 = .ok (.aload_n 0, 1) := by decide +kernel
theorem dJ0_charAt_5068e_1 : decode cJ0_charAt_5068e 1 = .ok (.invokevirtual 492, 3) := by decide +kernel
theorem dJ0_charAt_5068e_4 : decode cJ0_charAt_5068e 4 = .ok (.ifCond .eq 12, 3) := by decide +kernel
theorem dJ0_charAt_5068e_7 : decode cJ0_charAt_5068e 7 = .ok (.aload_n 0, 1) := by decide +kernel
theorem dJ0_charAt_5068e_8 : decode cJ0_charAt_5068e 8 = .ok (.getfield 9, 3) := by decide +kernel
theorem dJ0_charAt_5068e_11 : decode cJ0_charAt_5068e 11 = .ok (.iload_n 1, 1) := by decide +kernel
theorem dJ0_charAt_5068e_12 : decode cJ0_charAt_5068e 12 = .ok (.invokestatic 495, 3) := by decide +kernel
theorem dJ0_charAt_5068e_15 : decode cJ0_charAt_5068e 15 = .ok (.ireturn, 1) := by decide +kernel
theorem dJ0_charAt_5068e_16 : decode cJ0_charAt_5068e 16 = .ok (.aload_n 0, 1) := by decide +kernel
theorem dJ0_charAt_5068e_17 : decode cJ0_charAt_5068e 17 = .ok (.getfield 9, 3) := by decide +kernel
theorem dJ0_charAt_5068e_20 : decode cJ0_charAt_5068e 20 = .ok (.iload_n 1, 1) := by decide +kernel
theorem dJ0_charAt_5068e_21 : decode cJ0_charAt_5068e 21 = .ok (.invokestatic 498, 3) := by decide +kernel
theorem dJ0_charAt_5068e_24 : decode cJ0_charAt_5068e 24 = .ok (.ireturn, 1) := by decide +kernel
theorem dJ0_coder_7d493_0 : decode cJ0_coder_7d493 0 = .ok (.getstatic 38, 3) := by decide +kernel
theorem dJ0_coder_7d493_3 : decode cJ0_coder_7d493 3 = .ok (.ifCond .eq 10, 3) := by decide +kernel
theorem dJ0_coder_7d493_6 : decode cJ0_coder_7d493 6 = .ok (.aload_n 0, 1) := by decide +kernel
theorem dJ0_coder_7d493_7 : decode cJ0_coder_7d493 7 = .ok (.getfield 15, 3) := by decide +kernel
theorem dJ0_coder_7d493_10 : decode cJ0_coder_7d493 10 = .ok (.goto 4, 3) := by decide +kernel
theorem dJ0_coder_7d493_13 : decode cJ0_coder_7d493 13 = .ok (.iconst 1, 1) := by decide +kernel
theorem dJ0_coder_7d493_14 : decode cJ0_coder_7d493 14 = .ok (.ireturn, 1) := by decide +kernel
theorem dJ0_isLatin1_aae02_0 : decode cJ0_isLatin1_aae02 0 = .ok (.getstatic 38, 3) := by decide +kernel
theorem dJ0_isLatin1_aae02_3 : decode cJ0_isLatin1_aae02 3 = .ok (.ifCond .eq 14, 3) := by decide +kernel
theorem dJ0_isLatin1_aae02_6 : decode cJ0_isLatin1_aae02 6 = .ok (.aload_n 0, 1) := by decide +kernel
theorem dJ0_isLatin1_aae02_7 : decode cJ0_isLatin1_aae02 7 = .ok (.getfield 15, 3) := by decide +kernel
theorem dJ0_isLatin1_aae02_10 : decode cJ0_isLatin1_aae02 10 = .ok (.ifCond .ne 7, 3) := by decide +kernel
theorem dJ0_isLatin1_aae02_13 : decode cJ0_isLatin1_aae02 13 = .ok (.iconst 1, 1) := by decide +kernel
theorem dJ0_isLatin1_aae02_14 : decode cJ0_isLatin1_aae02 14 = .ok (.goto 4, 3) := by decide +kernel
theorem dJ0_isLatin1_aae02_17 : decode cJ0_isLatin1_aae02 17 = .ok (.iconst 0, 1) := by decide +kernel
theorem dJ0_isLatin1_aae02_18 : decode cJ0_isLatin1_aae02 18 = .ok (.ireturn, 1) := by decide +kernel
theorem dJ0_checkIndex_df160_0 : decode cJ0_checkIndex_df160 0 = .ok (.iload_n 0, 1) := by decide +kernel
theorem dJ0_checkIndex_df160_1 : decode cJ0_checkIndex_df160 1 = .ok (.iload_n 1, 1) := by decide +kernel
theorem dJ0_checkIndex_df160_2 : decode cJ0_checkIndex_df160 2 = .ok (.getstatic 1053, 3) := by decide +kernel
theorem dJ0_checkIndex_df160_5 : decode cJ0_checkIndex_df160 5 = .ok (.invokestatic 1059, 3) := by decide +kernel
theorem dJ0_checkIndex_df160_8 : decode cJ0_checkIndex_df160 8 = .ok (.pop, 1) := by decide +kernel
theorem dJ0_checkIndex_df160_9 : decode cJ0_checkIndex_df160 9 = .ok (.return_, 1) := by decide +kernel
theorem dJ1_charAt_3b067_0 : decode cJ1_charAt_3b067 0 = .ok (.iload_n 1, 1) := by decide +kernel
theorem dJ1_charAt_3b067_1 : decode cJ1_charAt_3b067 1 = .ok (.aload_n 0, 1) := by decide +kernel
theorem dJ1_charAt_3b067_2 : decode cJ1_charAt_3b067 2 = .ok (.arraylength, 1) := by decide +kernel
theorem dJ1_charAt_3b067_3 : decode cJ1_charAt_3b067 3 = .ok (.invokestatic 9, 3) := by decide +kernel
theorem dJ1_charAt_3b067_6 : decode cJ1_charAt_3b067 6 = .ok (.aload_n 0, 1) := by decide +kernel
theorem dJ1_charAt_3b067_7 : decode cJ1_charAt_3b067 7 = .ok (.iload_n 1, 1) := by decide +kernel
theorem dJ1_charAt_3b067_8 : decode cJ1_charAt_3b067 8 = .ok (.baload, 1) := by decide +kernel
theorem dJ1_charAt_3b067_9 : decode cJ1_charAt_3b067 9 = .ok (.sipush 255, 3) := by decide +kernel
theorem dJ1_charAt_3b067_12 : decode cJ1_charAt_3b067 12 = .ok (.iand, 1) := by decide +kernel
theorem dJ1_charAt_3b067_13 : decode cJ1_charAt_3b067 13 = .ok (.i2c, 1) := by decide +kernel
theorem dJ1_charAt_3b067_14 : decode cJ1_charAt_3b067 14 = .ok (.ireturn, 1) := by decide +kernel
theorem dJ2_getChar_3b067_0 : decode cJ2_getChar_3b067 0 = .ok (.getstatic 44, 3) := by decide +kernel
theorem dJ2_getChar_3b067_3 : decode cJ2_getChar_3b067 3 = .ok (.ifCond .ne 25, 3) := by decide +kernel
theorem dJ2_getChar_3b067_6 : decode cJ2_getChar_3b067 6 = .ok (.iload_n 1, 1) := by decide +kernel
theorem dJ2_getChar_3b067_7 : decode cJ2_getChar_3b067 7 = .ok (.ifCond .lt 11, 3) := by decide +kernel
theorem dJ2_getChar_3b067_10 : decode cJ2_getChar_3b067 10 = .ok (.iload_n 1, 1) := by decide +kernel
theorem dJ2_getChar_3b067_11 : decode cJ2_getChar_3b067 11 = .ok (.aload_n 0, 1) := by decide +kernel
theorem dJ2_getChar_3b067_12 : decode cJ2_getChar_3b067 12 = .ok (.invokestatic 48, 3) := by decide +kernel
theorem dJ2_getChar_3b067_15 : decode cJ2_getChar_3b067 15 = .ok (.if_icmp .lt 13, 3) := by decide +kernel
theorem dJ2_getChar_3b067_18 : decode cJ2_getChar_3b067 18 = .ok (.new 52, 3) := by decide +kernel
theorem dJ2_getChar_3b067_21 : decode cJ2_getChar_3b067 21 = .ok (.dup, 1) := by decide +kernel
theorem dJ2_getChar_3b067_22 : decode cJ2_getChar_3b067 22 = .ok (.ldc 54, 2) := by decide +kernel
theorem dJ2_getChar_3b067_24 : decode cJ2_getChar_3b067 24 = .ok (.invokespecial 56, 3) := by decide +kernel
theorem dJ2_getChar_3b067_27 : decode cJ2_getChar_3b067 27 = .ok (.athrow, 1) := by decide +kernel
theorem dJ2_getChar_3b067_28 : decode cJ2_getChar_3b067 28 = .ok (.iload_n 1, 1) := by decide +kernel
theorem dJ2_getChar_3b067_29 : decode cJ2_getChar_3b067 29 = .ok (.iconst 1, 1) := by decide +kernel
theorem dJ2_getChar_3b067_30 : decode cJ2_getChar_3b067 30 = .ok (.ishl, 1) := by decide +kernel
theorem dJ2_getChar_3b067_31 : decode cJ2_getChar_3b067 31 = .ok (.istore_n 1, 1) := by decide +kernel
theorem dJ2_getChar_3b067_32 : decode cJ2_getChar_3b067 32 = .ok (.aload_n 0, 1) := by decide +kernel
theorem dJ2_getChar_3b067_33 : decode cJ2_getChar_3b067 33 = .ok (.iload_n 1, 1) := by decide +kernel
theorem dJ2_getChar_3b067_34 : decode cJ2_getChar_3b067 34 = .ok (.iinc 1 1, 3) := by decide +kernel
theorem dJ2_getChar_3b067_37 : decode cJ2_getChar_3b067 37 = .ok (.baload, 1) := by decide +kernel
theorem dJ2_getChar_3b067_38 : decode cJ2_getChar_3b067 38 = .ok (.sipush 255, 3) := by decide +kernel
theorem dJ2_getChar_3b067_41 : decode cJ2_getChar_3b067 41 = .ok (.iand, 1) := by decide +kernel
theorem dJ2_getChar_3b067_42 : decode cJ2_getChar_3b067 42 = .ok (.getstatic 59, 3) := by decide +kernel
theorem dJ2_getChar_3b067_45 : decode cJ2_getChar_3b067 45 = .ok (.ishl, 1) := by decide +kernel
theorem dJ2_getChar_3b067_46 : decode cJ2_getChar_3b067 46 = .ok (.aload_n 0, 1) := by decide +kernel
theorem dJ2_getChar_3b067_47 : decode cJ2_getChar_3b067 47 = .ok (.iload_n 1, 1) := by decide +kernel
theorem dJ2_getChar_3b067_48 : decode cJ2_getChar_3b067 48 = .ok (.baload, 1) := by decide +kernel
theorem dJ2_getChar_3b067_49 : decode cJ2_getChar_3b067 49 = .ok (.sipush 255, 3) := by decide +kernel
theorem dJ2_getChar_3b067_52 : decode cJ2_getChar_3b067 52 = .ok (.iand, 1) := by decide +kernel
theorem dJ2_getChar_3b067_53 : decode cJ2_getChar_3b067 53 = .ok (.getstatic 63, 3) := by decide +kernel
theorem dJ2_getChar_3b067_56 : decode cJ2_getChar_3b067 56 = .ok (.ishl, 1) := by decide +kernel
theorem dJ2_getChar_3b067_57 : decode cJ2_getChar_3b067 57 = .ok (.ior, 1) := by decide +kernel
theorem dJ2_getChar_3b067_58 : decode cJ2_getChar_3b067 58 = .ok (.i2c, 1) := by decide +kernel
theorem dJ2_getChar_3b067_59 : decode cJ2_getChar_3b067 59 = .ok (.ireturn, 1) := by decide +kernel
theorem dJ2_length_9d52b_0 : decode cJ2_length_9d52b 0 = .ok (.aload_n 0, 1) := by decide +kernel
theorem dJ2_length_9d52b_1 : decode cJ2_length_9d52b 1 = .ok (.arraylength, 1) := by decide +kernel
theorem dJ2_length_9d52b_2 : decode cJ2_length_9d52b 2 = .ok (.iconst 1, 1) := by decide +kernel
theorem dJ2_length_9d52b_3 : decode cJ2_length_9d52b 3 = .ok (.ishr, 1) := by decide +kernel
theorem dJ2_length_9d52b_4 : decode cJ2_length_9d52b 4 = .ok (.ireturn, 1) := by decide +kernel
theorem dJ2_charAt_3b067_0 : decode cJ2_charAt_3b067 0 = .ok (.iload_n 1, 1) := by decide +kernel
theorem dJ2_charAt_3b067_1 : decode cJ2_charAt_3b067 1 = .ok (.aload_n 0, 1) := by decide +kernel
theorem dJ2_charAt_3b067_2 : decode cJ2_charAt_3b067 2 = .ok (.invokestatic 67, 3) := by decide +kernel
theorem dJ2_charAt_3b067_5 : decode cJ2_charAt_3b067 5 = .ok (.aload_n 0, 1) := by decide +kernel
theorem dJ2_charAt_3b067_6 : decode cJ2_charAt_3b067 6 = .ok (.iload_n 1, 1) := by decide +kernel
theorem dJ2_charAt_3b067_7 : decode cJ2_charAt_3b067 7 = .ok (.invokestatic 71, 3) := by decide +kernel
theorem dJ2_charAt_3b067_10 : decode cJ2_charAt_3b067 10 = .ok (.ireturn, 1) := by decide +kernel
theorem dJ2_checkIndex_2214a_0 : decode cJ2_checkIndex_2214a 0 = .ok (.iload_n 0, 1) := by decide +kernel
theorem dJ2_checkIndex_2214a_1 : decode cJ2_checkIndex_2214a 1 = .ok (.aload_n 1, 1) := by decide +kernel
theorem dJ2_checkIndex_2214a_2 : decode cJ2_checkIndex_2214a 2 = .ok (.invokestatic 48, 3) := by decide +kernel
theorem dJ2_checkIndex_2214a_5 : decode cJ2_checkIndex_2214a 5 = .ok (.invokestatic 414, 3) := by decide +kernel
theorem dJ2_checkIndex_2214a_8 : decode cJ2_checkIndex_2214a 8 = .ok (.return_, 1) := by decide +kernel
theorem dJ3_checkIndex_8e157_0 : decode cJ3_checkIndex_8e157 0 = .ok (.iload_n 0, 1) := by decide +kernel
theorem dJ3_checkIndex_8e157_1 : decode cJ3_checkIndex_8e157 1 = .ok (.ifCond .lt 8, 3) := by decide +kernel
theorem dJ3_checkIndex_8e157_4 : decode cJ3_checkIndex_8e157 4 = .ok (.iload_n 0, 1) := by decide +kernel
theorem dJ3_checkIndex_8e157_5 : decode cJ3_checkIndex_8e157 5 = .ok (.iload_n 1, 1) := by decide +kernel
theorem dJ3_checkIndex_8e157_6 : decode cJ3_checkIndex_8e157 6 = .ok (.if_icmp .lt 10, 3) := by decide +kernel
theorem dJ3_checkIndex_8e157_9 : decode cJ3_checkIndex_8e157 9 = .ok (.aload_n 2, 1) := by decide +kernel
theorem dJ3_checkIndex_8e157_10 : decode cJ3_checkIndex_8e157 10 = .ok (.iload_n 0, 1) := by decide +kernel
theorem dJ3_checkIndex_8e157_11 : decode cJ3_checkIndex_8e157 11 = .ok (.iload_n 1, 1) := by decide +kernel
theorem dJ3_checkIndex_8e157_12 : decode cJ3_checkIndex_8e157 12 = .ok (.invokestatic 95, 3) := by decide +kernel
theorem dJ3_checkIndex_8e157_15 : decode cJ3_checkIndex_8e157 15 = .ok (.athrow, 1) := by decide +kernel
theorem dJ3_checkIndex_8e157_16 : decode cJ3_checkIndex_8e157 16 = .ok (.iload_n 0, 1) := by decide +kernel
theorem dJ3_checkIndex_8e157_17 : decode cJ3_checkIndex_8e157 17 = .ok (.ireturn, 1) := by decide +kernel
theorem dL_law_0 : decode cL_law 0 = .ok (.new 7, 3) := by decide +kernel
theorem dL_law_3 : decode cL_law 3 = .ok (.dup, 1) := by decide +kernel
theorem dL_law_4 : decode cL_law 4 = .ok (.invokespecial 9, 3) := by decide +kernel
theorem dL_law_7 : decode cL_law 7 = .ok (.astore_n 1, 1) := by decide +kernel
theorem dL_law_8 : decode cL_law 8 = .ok (.new 10, 3) := by decide +kernel
theorem dL_law_11 : decode cL_law 11 = .ok (.dup, 1) := by decide +kernel
theorem dL_law_12 : decode cL_law 12 = .ok (.invokespecial 12, 3) := by decide +kernel
theorem dL_law_15 : decode cL_law 15 = .ok (.astore_n 2, 1) := by decide +kernel
theorem dL_law_16 : decode cL_law 16 = .ok (.iconst 0, 1) := by decide +kernel
theorem dL_law_17 : decode cL_law 17 = .ok (.istore_n 3, 1) := by decide +kernel
theorem dL_law_18 : decode cL_law 18 = .ok (.iload_n 3, 1) := by decide +kernel
theorem dL_law_19 : decode cL_law 19 = .ok (.aload_n 0, 1) := by decide +kernel
theorem dL_law_20 : decode cL_law 20 = .ok (.arraylength, 1) := by decide +kernel
theorem dL_law_21 : decode cL_law 21 = .ok (.bipush 6, 2) := by decide +kernel
theorem dL_law_23 : decode cL_law 23 = .ok (.isub, 1) := by decide +kernel
theorem dL_law_24 : decode cL_law 24 = .ok (.if_icmp .gt 1401, 3) := by decide +kernel
theorem dL_law_27 : decode cL_law 27 = .ok (.aload_n 0, 1) := by decide +kernel
theorem dL_law_28 : decode cL_law 28 = .ok (.iload_n 3, 1) := by decide +kernel
theorem dL_law_29 : decode cL_law 29 = .ok (.iaload, 1) := by decide +kernel
theorem dL_law_30 : decode cL_law 30 = .ok (.bipush 63, 2) := by decide +kernel
theorem dL_law_32 : decode cL_law 32 = .ok (.iand, 1) := by decide +kernel
theorem dL_law_33 : decode cL_law 33 = .ok (.tableswitch 1386 0 39 #[175, 228, 261, 294, 327, 370, 403, 416, 439, 462, 495, 508, 531, 544, 567, 590, 613, 656, 699, 732, 765, 809, 852, 875, 888, 921, 944, 987, 1030, 1063, 1086, 1149, 1192, 1225, 1258, 1291, 1314, 1337, 1350, 1363], 175) := by decide +kernel
theorem dL_law_208 : decode cL_law 208 = .ok (.aload_n 1, 1) := by decide +kernel
theorem dL_law_209 : decode cL_law 209 = .ok (.aload_n 0, 1) := by decide +kernel
theorem dL_law_210 : decode cL_law 210 = .ok (.iload_n 3, 1) := by decide +kernel
theorem dL_law_211 : decode cL_law 211 = .ok (.iconst 1, 1) := by decide +kernel
theorem dL_law_212 : decode cL_law 212 = .ok (.iadd, 1) := by decide +kernel
theorem dL_law_213 : decode cL_law 213 = .ok (.iaload, 1) := by decide +kernel
theorem dL_law_214 : decode cL_law 214 = .ok (.aload_n 0, 1) := by decide +kernel
theorem dL_law_215 : decode cL_law 215 = .ok (.iload_n 3, 1) := by decide +kernel
theorem dL_law_216 : decode cL_law 216 = .ok (.iconst 2, 1) := by decide +kernel
theorem dL_law_217 : decode cL_law 217 = .ok (.iadd, 1) := by decide +kernel
theorem dL_law_218 : decode cL_law 218 = .ok (.iaload, 1) := by decide +kernel
theorem dL_law_219 : decode cL_law 219 = .ok (.aload_n 0, 1) := by decide +kernel
theorem dL_law_220 : decode cL_law 220 = .ok (.iload_n 3, 1) := by decide +kernel
theorem dL_law_221 : decode cL_law 221 = .ok (.iconst 3, 1) := by decide +kernel
theorem dL_law_222 : decode cL_law 222 = .ok (.iadd, 1) := by decide +kernel
theorem dL_law_223 : decode cL_law 223 = .ok (.iaload, 1) := by decide +kernel
theorem dL_law_224 : decode cL_law 224 = .ok (.aload_n 0, 1) := by decide +kernel
theorem dL_law_225 : decode cL_law 225 = .ok (.iload_n 3, 1) := by decide +kernel
theorem dL_law_226 : decode cL_law 226 = .ok (.iconst 4, 1) := by decide +kernel
theorem dL_law_227 : decode cL_law 227 = .ok (.iadd, 1) := by decide +kernel
theorem dL_law_228 : decode cL_law 228 = .ok (.iaload, 1) := by decide +kernel
theorem dL_law_229 : decode cL_law 229 = .ok (.invokevirtual 13, 3) := by decide +kernel
theorem dL_law_232 : decode cL_law 232 = .ok (.aload_n 2, 1) := by decide +kernel
theorem dL_law_233 : decode cL_law 233 = .ok (.aload_n 0, 1) := by decide +kernel
theorem dL_law_234 : decode cL_law 234 = .ok (.iload_n 3, 1) := by decide +kernel
theorem dL_law_235 : decode cL_law 235 = .ok (.iconst 1, 1) := by decide +kernel
theorem dL_law_236 : decode cL_law 236 = .ok (.iadd, 1) := by decide +kernel
theorem dL_law_237 : decode cL_law 237 = .ok (.iaload, 1) := by decide +kernel
theorem dL_law_238 : decode cL_law 238 = .ok (.aload_n 0, 1) := by decide +kernel
theorem dL_law_239 : decode cL_law 239 = .ok (.iload_n 3, 1) := by decide +kernel
theorem dL_law_240 : decode cL_law 240 = .ok (.iconst 2, 1) := by decide +kernel
theorem dL_law_241 : decode cL_law 241 = .ok (.iadd, 1) := by decide +kernel
theorem dL_law_242 : decode cL_law 242 = .ok (.iaload, 1) := by decide +kernel
theorem dL_law_243 : decode cL_law 243 = .ok (.aload_n 0, 1) := by decide +kernel
theorem dL_law_244 : decode cL_law 244 = .ok (.iload_n 3, 1) := by decide +kernel
theorem dL_law_245 : decode cL_law 245 = .ok (.iconst 3, 1) := by decide +kernel
theorem dL_law_246 : decode cL_law 246 = .ok (.iadd, 1) := by decide +kernel
theorem dL_law_247 : decode cL_law 247 = .ok (.iaload, 1) := by decide +kernel
theorem dL_law_248 : decode cL_law 248 = .ok (.aload_n 0, 1) := by decide +kernel
theorem dL_law_249 : decode cL_law 249 = .ok (.iload_n 3, 1) := by decide +kernel
theorem dL_law_250 : decode cL_law 250 = .ok (.iconst 4, 1) := by decide +kernel
theorem dL_law_251 : decode cL_law 251 = .ok (.iadd, 1) := by decide +kernel
theorem dL_law_252 : decode cL_law 252 = .ok (.iaload, 1) := by decide +kernel
theorem dL_law_253 : decode cL_law 253 = .ok (.invokevirtual 17, 3) := by decide +kernel
theorem dL_law_256 : decode cL_law 256 = .ok (.if_icmp .eq 1163, 3) := by decide +kernel
theorem dL_law_259 : decode cL_law 259 = .ok (.iconst 0, 1) := by decide +kernel
theorem dL_law_260 : decode cL_law 260 = .ok (.ireturn, 1) := by decide +kernel
theorem dL_law_261 : decode cL_law 261 = .ok (.aload_n 1, 1) := by decide +kernel
theorem dL_law_262 : decode cL_law 262 = .ok (.aload_n 0, 1) := by decide +kernel
theorem dL_law_263 : decode cL_law 263 = .ok (.iload_n 3, 1) := by decide +kernel
theorem dL_law_264 : decode cL_law 264 = .ok (.iconst 1, 1) := by decide +kernel
theorem dL_law_265 : decode cL_law 265 = .ok (.iadd, 1) := by decide +kernel
theorem dL_law_266 : decode cL_law 266 = .ok (.iaload, 1) := by decide +kernel
theorem dL_law_267 : decode cL_law 267 = .ok (.aload_n 0, 1) := by decide +kernel
theorem dL_law_268 : decode cL_law 268 = .ok (.iload_n 3, 1) := by decide +kernel
theorem dL_law_269 : decode cL_law 269 = .ok (.iconst 2, 1) := by decide +kernel
theorem dL_law_270 : decode cL_law 270 = .ok (.iadd, 1) := by decide +kernel
theorem dL_law_271 : decode cL_law 271 = .ok (.iaload, 1) := by decide +kernel
theorem dL_law_272 : decode cL_law 272 = .ok (.invokevirtual 18, 3) := by decide +kernel
theorem dL_law_275 : decode cL_law 275 = .ok (.aload_n 2, 1) := by decide +kernel
theorem dL_law_276 : decode cL_law 276 = .ok (.aload_n 0, 1) := by decide +kernel
theorem dL_law_277 : decode cL_law 277 = .ok (.iload_n 3, 1) := by decide +kernel
theorem dL_law_278 : decode cL_law 278 = .ok (.iconst 1, 1) := by decide +kernel
theorem dL_law_279 : decode cL_law 279 = .ok (.iadd, 1) := by decide +kernel
theorem dL_law_280 : decode cL_law 280 = .ok (.iaload, 1) := by decide +kernel
theorem dL_law_281 : decode cL_law 281 = .ok (.aload_n 0, 1) := by decide +kernel
theorem dL_law_282 : decode cL_law 282 = .ok (.iload_n 3, 1) := by decide +kernel
theorem dL_law_283 : decode cL_law 283 = .ok (.iconst 2, 1) := by decide +kernel
theorem dL_law_284 : decode cL_law 284 = .ok (.iadd, 1) := by decide +kernel
theorem dL_law_285 : decode cL_law 285 = .ok (.iaload, 1) := by decide +kernel
theorem dL_law_286 : decode cL_law 286 = .ok (.invokevirtual 22, 3) := by decide +kernel
theorem dL_law_289 : decode cL_law 289 = .ok (.if_icmp .eq 1130, 3) := by decide +kernel
theorem dL_law_292 : decode cL_law 292 = .ok (.iconst 0, 1) := by decide +kernel
theorem dL_law_293 : decode cL_law 293 = .ok (.ireturn, 1) := by decide +kernel
theorem dL_law_294 : decode cL_law 294 = .ok (.aload_n 1, 1) := by decide +kernel
theorem dL_law_295 : decode cL_law 295 = .ok (.aload_n 0, 1) := by decide +kernel
theorem dL_law_296 : decode cL_law 296 = .ok (.iload_n 3, 1) := by decide +kernel
theorem dL_law_297 : decode cL_law 297 = .ok (.iconst 1, 1) := by decide +kernel
theorem dL_law_298 : decode cL_law 298 = .ok (.iadd, 1) := by decide +kernel
theorem dL_law_299 : decode cL_law 299 = .ok (.iaload, 1) := by decide +kernel
theorem dL_law_300 : decode cL_law 300 = .ok (.aload_n 0, 1) := by decide +kernel
theorem dL_law_301 : decode cL_law 301 = .ok (.iload_n 3, 1) := by decide +kernel
theorem dL_law_302 : decode cL_law 302 = .ok (.iconst 2, 1) := by decide +kernel
theorem dL_law_303 : decode cL_law 303 = .ok (.iadd, 1) := by decide +kernel
theorem dL_law_304 : decode cL_law 304 = .ok (.iaload, 1) := by decide +kernel
theorem dL_law_305 : decode cL_law 305 = .ok (.invokevirtual 23, 3) := by decide +kernel
theorem dL_law_308 : decode cL_law 308 = .ok (.aload_n 2, 1) := by decide +kernel
theorem dL_law_309 : decode cL_law 309 = .ok (.aload_n 0, 1) := by decide +kernel
theorem dL_law_310 : decode cL_law 310 = .ok (.iload_n 3, 1) := by decide +kernel
theorem dL_law_311 : decode cL_law 311 = .ok (.iconst 1, 1) := by decide +kernel
theorem dL_law_312 : decode cL_law 312 = .ok (.iadd, 1) := by decide +kernel
theorem dL_law_313 : decode cL_law 313 = .ok (.iaload, 1) := by decide +kernel
theorem dL_law_314 : decode cL_law 314 = .ok (.aload_n 0, 1) := by decide +kernel
theorem dL_law_315 : decode cL_law 315 = .ok (.iload_n 3, 1) := by decide +kernel
theorem dL_law_316 : decode cL_law 316 = .ok (.iconst 2, 1) := by decide +kernel
theorem dL_law_317 : decode cL_law 317 = .ok (.iadd, 1) := by decide +kernel
theorem dL_law_318 : decode cL_law 318 = .ok (.iaload, 1) := by decide +kernel
theorem dL_law_319 : decode cL_law 319 = .ok (.invokevirtual 26, 3) := by decide +kernel
theorem dL_law_322 : decode cL_law 322 = .ok (.if_icmp .eq 1097, 3) := by decide +kernel
theorem dL_law_325 : decode cL_law 325 = .ok (.iconst 0, 1) := by decide +kernel
theorem dL_law_326 : decode cL_law 326 = .ok (.ireturn, 1) := by decide +kernel
theorem dL_law_327 : decode cL_law 327 = .ok (.aload_n 1, 1) := by decide +kernel
theorem dL_law_328 : decode cL_law 328 = .ok (.aload_n 0, 1) := by decide +kernel
theorem dL_law_329 : decode cL_law 329 = .ok (.iload_n 3, 1) := by decide +kernel
theorem dL_law_330 : decode cL_law 330 = .ok (.iconst 1, 1) := by decide +kernel
theorem dL_law_331 : decode cL_law 331 = .ok (.iadd, 1) := by decide +kernel
theorem dL_law_332 : decode cL_law 332 = .ok (.iaload, 1) := by decide +kernel
theorem dL_law_333 : decode cL_law 333 = .ok (.aload_n 0, 1) := by decide +kernel
theorem dL_law_334 : decode cL_law 334 = .ok (.iload_n 3, 1) := by decide +kernel
theorem dL_law_335 : decode cL_law 335 = .ok (.iconst 2, 1) := by decide +kernel
theorem dL_law_336 : decode cL_law 336 = .ok (.iadd, 1) := by decide +kernel
theorem dL_law_337 : decode cL_law 337 = .ok (.iaload, 1) := by decide +kernel
theorem dL_law_338 : decode cL_law 338 = .ok (.invokevirtual 27, 3) := by decide +kernel
theorem dL_law_341 : decode cL_law 341 = .ok (.aload_n 2, 1) := by decide +kernel
theorem dL_law_342 : decode cL_law 342 = .ok (.aload_n 0, 1) := by decide +kernel
theorem dL_law_343 : decode cL_law 343 = .ok (.iload_n 3, 1) := by decide +kernel
theorem dL_law_344 : decode cL_law 344 = .ok (.iconst 1, 1) := by decide +kernel
theorem dL_law_345 : decode cL_law 345 = .ok (.iadd, 1) := by decide +kernel
theorem dL_law_346 : decode cL_law 346 = .ok (.iaload, 1) := by decide +kernel
theorem dL_law_347 : decode cL_law 347 = .ok (.aload_n 0, 1) := by decide +kernel
theorem dL_law_348 : decode cL_law 348 = .ok (.iload_n 3, 1) := by decide +kernel
theorem dL_law_349 : decode cL_law 349 = .ok (.iconst 2, 1) := by decide +kernel
theorem dL_law_350 : decode cL_law 350 = .ok (.iadd, 1) := by decide +kernel
theorem dL_law_351 : decode cL_law 351 = .ok (.iaload, 1) := by decide +kernel
theorem dL_law_352 : decode cL_law 352 = .ok (.invokevirtual 30, 3) := by decide +kernel
theorem dL_law_355 : decode cL_law 355 = .ok (.if_icmp .eq 1064, 3) := by decide +kernel
theorem dL_law_358 : decode cL_law 358 = .ok (.iconst 0, 1) := by decide +kernel
theorem dL_law_359 : decode cL_law 359 = .ok (.ireturn, 1) := by decide +kernel
theorem dL_law_360 : decode cL_law 360 = .ok (.aload_n 1, 1) := by decide +kernel
theorem dL_law_361 : decode cL_law 361 = .ok (.aload_n 0, 1) := by decide +kernel
theorem dL_law_362 : decode cL_law 362 = .ok (.iload_n 3, 1) := by decide +kernel
theorem dL_law_363 : decode cL_law 363 = .ok (.iconst 1, 1) := by decide +kernel
theorem dL_law_364 : decode cL_law 364 = .ok (.iadd, 1) := by decide +kernel
theorem dL_law_365 : decode cL_law 365 = .ok (.iaload, 1) := by decide +kernel
theorem dL_law_366 : decode cL_law 366 = .ok (.aload_n 0, 1) := by decide +kernel
theorem dL_law_367 : decode cL_law 367 = .ok (.iload_n 3, 1) := by decide +kernel
theorem dL_law_368 : decode cL_law 368 = .ok (.iconst 2, 1) := by decide +kernel
theorem dL_law_369 : decode cL_law 369 = .ok (.iadd, 1) := by decide +kernel
theorem dL_law_370 : decode cL_law 370 = .ok (.iaload, 1) := by decide +kernel
theorem dL_law_371 : decode cL_law 371 = .ok (.aload_n 0, 1) := by decide +kernel
theorem dL_law_372 : decode cL_law 372 = .ok (.iload_n 3, 1) := by decide +kernel
theorem dL_law_373 : decode cL_law 373 = .ok (.iconst 3, 1) := by decide +kernel
theorem dL_law_374 : decode cL_law 374 = .ok (.iadd, 1) := by decide +kernel
theorem dL_law_375 : decode cL_law 375 = .ok (.iaload, 1) := by decide +kernel
theorem dL_law_376 : decode cL_law 376 = .ok (.invokevirtual 31, 3) := by decide +kernel
theorem dL_law_379 : decode cL_law 379 = .ok (.aload_n 2, 1) := by decide +kernel
theorem dL_law_380 : decode cL_law 380 = .ok (.aload_n 0, 1) := by decide +kernel
theorem dL_law_381 : decode cL_law 381 = .ok (.iload_n 3, 1) := by decide +kernel
theorem dL_law_382 : decode cL_law 382 = .ok (.iconst 1, 1) := by decide +kernel
theorem dL_law_383 : decode cL_law 383 = .ok (.iadd, 1) := by decide +kernel
theorem dL_law_384 : decode cL_law 384 = .ok (.iaload, 1) := by decide +kernel
theorem dL_law_385 : decode cL_law 385 = .ok (.aload_n 0, 1) := by decide +kernel
theorem dL_law_386 : decode cL_law 386 = .ok (.iload_n 3, 1) := by decide +kernel
theorem dL_law_387 : decode cL_law 387 = .ok (.iconst 2, 1) := by decide +kernel
theorem dL_law_388 : decode cL_law 388 = .ok (.iadd, 1) := by decide +kernel
theorem dL_law_389 : decode cL_law 389 = .ok (.iaload, 1) := by decide +kernel
theorem dL_law_390 : decode cL_law 390 = .ok (.aload_n 0, 1) := by decide +kernel
theorem dL_law_391 : decode cL_law 391 = .ok (.iload_n 3, 1) := by decide +kernel
theorem dL_law_392 : decode cL_law 392 = .ok (.iconst 3, 1) := by decide +kernel
theorem dL_law_393 : decode cL_law 393 = .ok (.iadd, 1) := by decide +kernel
theorem dL_law_394 : decode cL_law 394 = .ok (.iaload, 1) := by decide +kernel
theorem dL_law_395 : decode cL_law 395 = .ok (.invokevirtual 35, 3) := by decide +kernel
theorem dL_law_398 : decode cL_law 398 = .ok (.if_icmp .eq 1021, 3) := by decide +kernel
theorem dL_law_401 : decode cL_law 401 = .ok (.iconst 0, 1) := by decide +kernel
theorem dL_law_402 : decode cL_law 402 = .ok (.ireturn, 1) := by decide +kernel
theorem dL_law_403 : decode cL_law 403 = .ok (.aload_n 1, 1) := by decide +kernel
theorem dL_law_404 : decode cL_law 404 = .ok (.aload_n 0, 1) := by decide +kernel
theorem dL_law_405 : decode cL_law 405 = .ok (.iload_n 3, 1) := by decide +kernel
theorem dL_law_406 : decode cL_law 406 = .ok (.iconst 1, 1) := by decide +kernel
theorem dL_law_407 : decode cL_law 407 = .ok (.iadd, 1) := by decide +kernel
theorem dL_law_408 : decode cL_law 408 = .ok (.iaload, 1) := by decide +kernel
theorem dL_law_409 : decode cL_law 409 = .ok (.aload_n 0, 1) := by decide +kernel
theorem dL_law_410 : decode cL_law 410 = .ok (.iload_n 3, 1) := by decide +kernel
theorem dL_law_411 : decode cL_law 411 = .ok (.iconst 2, 1) := by decide +kernel
theorem dL_law_412 : decode cL_law 412 = .ok (.iadd, 1) := by decide +kernel
theorem dL_law_413 : decode cL_law 413 = .ok (.iaload, 1) := by decide +kernel
theorem dL_law_414 : decode cL_law 414 = .ok (.invokevirtual 36, 3) := by decide +kernel
theorem dL_law_417 : decode cL_law 417 = .ok (.aload_n 2, 1) := by decide +kernel
theorem dL_law_418 : decode cL_law 418 = .ok (.aload_n 0, 1) := by decide +kernel
theorem dL_law_419 : decode cL_law 419 = .ok (.iload_n 3, 1) := by decide +kernel
theorem dL_law_420 : decode cL_law 420 = .ok (.iconst 1, 1) := by decide +kernel
theorem dL_law_421 : decode cL_law 421 = .ok (.iadd, 1) := by decide +kernel
theorem dL_law_422 : decode cL_law 422 = .ok (.iaload, 1) := by decide +kernel
theorem dL_law_423 : decode cL_law 423 = .ok (.aload_n 0, 1) := by decide +kernel
theorem dL_law_424 : decode cL_law 424 = .ok (.iload_n 3, 1) := by decide +kernel
theorem dL_law_425 : decode cL_law 425 = .ok (.iconst 2, 1) := by decide +kernel
theorem dL_law_426 : decode cL_law 426 = .ok (.iadd, 1) := by decide +kernel
theorem dL_law_427 : decode cL_law 427 = .ok (.iaload, 1) := by decide +kernel
theorem dL_law_428 : decode cL_law 428 = .ok (.invokevirtual 39, 3) := by decide +kernel
theorem dL_law_431 : decode cL_law 431 = .ok (.if_icmp .eq 988, 3) := by decide +kernel
theorem dL_law_434 : decode cL_law 434 = .ok (.iconst 0, 1) := by decide +kernel
theorem dL_law_435 : decode cL_law 435 = .ok (.ireturn, 1) := by decide +kernel
theorem dL_law_436 : decode cL_law 436 = .ok (.aload_n 1, 1) := by decide +kernel
theorem dL_law_437 : decode cL_law 437 = .ok (.invokevirtual 40, 3) := by decide +kernel
theorem dL_law_440 : decode cL_law 440 = .ok (.aload_n 2, 1) := by decide +kernel
theorem dL_law_441 : decode cL_law 441 = .ok (.invokevirtual 44, 3) := by decide +kernel
theorem dL_law_444 : decode cL_law 444 = .ok (.if_icmp .eq 975, 3) := by decide +kernel
theorem dL_law_447 : decode cL_law 447 = .ok (.iconst 0, 1) := by decide +kernel
theorem dL_law_448 : decode cL_law 448 = .ok (.ireturn, 1) := by decide +kernel
theorem dL_law_449 : decode cL_law 449 = .ok (.aload_n 1, 1) := by decide +kernel
theorem dL_law_450 : decode cL_law 450 = .ok (.aload_n 0, 1) := by decide +kernel
theorem dL_law_451 : decode cL_law 451 = .ok (.iload_n 3, 1) := by decide +kernel
theorem dL_law_452 : decode cL_law 452 = .ok (.iconst 1, 1) := by decide +kernel
theorem dL_law_453 : decode cL_law 453 = .ok (.iadd, 1) := by decide +kernel
theorem dL_law_454 : decode cL_law 454 = .ok (.iaload, 1) := by decide +kernel
theorem dL_law_455 : decode cL_law 455 = .ok (.invokevirtual 45, 3) := by decide +kernel
theorem dL_law_458 : decode cL_law 458 = .ok (.aload_n 2, 1) := by decide +kernel
theorem dL_law_459 : decode cL_law 459 = .ok (.aload_n 0, 1) := by decide +kernel
theorem dL_law_460 : decode cL_law 460 = .ok (.iload_n 3, 1) := by decide +kernel
theorem dL_law_461 : decode cL_law 461 = .ok (.iconst 1, 1) := by decide +kernel
theorem dL_law_462 : decode cL_law 462 = .ok (.iadd, 1) := by decide +kernel
theorem dL_law_463 : decode cL_law 463 = .ok (.iaload, 1) := by decide +kernel
theorem dL_law_464 : decode cL_law 464 = .ok (.invokevirtual 49, 3) := by decide +kernel
theorem dL_law_467 : decode cL_law 467 = .ok (.if_icmp .eq 952, 3) := by decide +kernel
theorem dL_law_470 : decode cL_law 470 = .ok (.iconst 0, 1) := by decide +kernel
theorem dL_law_471 : decode cL_law 471 = .ok (.ireturn, 1) := by decide +kernel
theorem dL_law_472 : decode cL_law 472 = .ok (.aload_n 1, 1) := by decide +kernel
theorem dL_law_473 : decode cL_law 473 = .ok (.aload_n 0, 1) := by decide +kernel
theorem dL_law_474 : decode cL_law 474 = .ok (.iload_n 3, 1) := by decide +kernel
theorem dL_law_475 : decode cL_law 475 = .ok (.iconst 1, 1) := by decide +kernel
theorem dL_law_476 : decode cL_law 476 = .ok (.iadd, 1) := by decide +kernel
theorem dL_law_477 : decode cL_law 477 = .ok (.iaload, 1) := by decide +kernel
theorem dL_law_478 : decode cL_law 478 = .ok (.invokevirtual 50, 3) := by decide +kernel
theorem dL_law_481 : decode cL_law 481 = .ok (.aload_n 2, 1) := by decide +kernel
theorem dL_law_482 : decode cL_law 482 = .ok (.aload_n 0, 1) := by decide +kernel
theorem dL_law_483 : decode cL_law 483 = .ok (.iload_n 3, 1) := by decide +kernel
theorem dL_law_484 : decode cL_law 484 = .ok (.iconst 1, 1) := by decide +kernel
theorem dL_law_485 : decode cL_law 485 = .ok (.iadd, 1) := by decide +kernel
theorem dL_law_486 : decode cL_law 486 = .ok (.iaload, 1) := by decide +kernel
theorem dL_law_487 : decode cL_law 487 = .ok (.invokevirtual 53, 3) := by decide +kernel
theorem dL_law_490 : decode cL_law 490 = .ok (.if_icmp .eq 929, 3) := by decide +kernel
theorem dL_law_493 : decode cL_law 493 = .ok (.iconst 0, 1) := by decide +kernel
theorem dL_law_494 : decode cL_law 494 = .ok (.ireturn, 1) := by decide +kernel
theorem dL_law_495 : decode cL_law 495 = .ok (.aload_n 1, 1) := by decide +kernel
theorem dL_law_496 : decode cL_law 496 = .ok (.aload_n 0, 1) := by decide +kernel
theorem dL_law_497 : decode cL_law 497 = .ok (.iload_n 3, 1) := by decide +kernel
theorem dL_law_498 : decode cL_law 498 = .ok (.iconst 1, 1) := by decide +kernel
theorem dL_law_499 : decode cL_law 499 = .ok (.iadd, 1) := by decide +kernel
theorem dL_law_500 : decode cL_law 500 = .ok (.iaload, 1) := by decide +kernel
theorem dL_law_501 : decode cL_law 501 = .ok (.aload_n 0, 1) := by decide +kernel
theorem dL_law_502 : decode cL_law 502 = .ok (.iload_n 3, 1) := by decide +kernel
theorem dL_law_503 : decode cL_law 503 = .ok (.iconst 2, 1) := by decide +kernel
theorem dL_law_504 : decode cL_law 504 = .ok (.iadd, 1) := by decide +kernel
theorem dL_law_505 : decode cL_law 505 = .ok (.iaload, 1) := by decide +kernel
theorem dL_law_506 : decode cL_law 506 = .ok (.invokevirtual 54, 3) := by decide +kernel
theorem dL_law_509 : decode cL_law 509 = .ok (.aload_n 2, 1) := by decide +kernel
theorem dL_law_510 : decode cL_law 510 = .ok (.aload_n 0, 1) := by decide +kernel
theorem dL_law_511 : decode cL_law 511 = .ok (.iload_n 3, 1) := by decide +kernel
theorem dL_law_512 : decode cL_law 512 = .ok (.iconst 1, 1) := by decide +kernel
theorem dL_law_513 : decode cL_law 513 = .ok (.iadd, 1) := by decide +kernel
theorem dL_law_514 : decode cL_law 514 = .ok (.iaload, 1) := by decide +kernel
theorem dL_law_515 : decode cL_law 515 = .ok (.aload_n 0, 1) := by decide +kernel
theorem dL_law_516 : decode cL_law 516 = .ok (.iload_n 3, 1) := by decide +kernel
theorem dL_law_517 : decode cL_law 517 = .ok (.iconst 2, 1) := by decide +kernel
theorem dL_law_518 : decode cL_law 518 = .ok (.iadd, 1) := by decide +kernel
theorem dL_law_519 : decode cL_law 519 = .ok (.iaload, 1) := by decide +kernel
theorem dL_law_520 : decode cL_law 520 = .ok (.invokevirtual 57, 3) := by decide +kernel
theorem dL_law_523 : decode cL_law 523 = .ok (.if_icmp .eq 896, 3) := by decide +kernel
theorem dL_law_526 : decode cL_law 526 = .ok (.iconst 0, 1) := by decide +kernel
theorem dL_law_527 : decode cL_law 527 = .ok (.ireturn, 1) := by decide +kernel
theorem dL_law_528 : decode cL_law 528 = .ok (.aload_n 1, 1) := by decide +kernel
theorem dL_law_529 : decode cL_law 529 = .ok (.invokevirtual 58, 3) := by decide +kernel
theorem dL_law_532 : decode cL_law 532 = .ok (.aload_n 2, 1) := by decide +kernel
theorem dL_law_533 : decode cL_law 533 = .ok (.invokevirtual 61, 3) := by decide +kernel
theorem dL_law_536 : decode cL_law 536 = .ok (.if_icmp .eq 883, 3) := by decide +kernel
theorem dL_law_539 : decode cL_law 539 = .ok (.iconst 0, 1) := by decide +kernel
theorem dL_law_540 : decode cL_law 540 = .ok (.ireturn, 1) := by decide +kernel
theorem dL_law_541 : decode cL_law 541 = .ok (.aload_n 1, 1) := by decide +kernel
theorem dL_law_542 : decode cL_law 542 = .ok (.aload_n 0, 1) := by decide +kernel
theorem dL_law_543 : decode cL_law 543 = .ok (.iload_n 3, 1) := by decide +kernel
theorem dL_law_544 : decode cL_law 544 = .ok (.iconst 1, 1) := by decide +kernel
theorem dL_law_545 : decode cL_law 545 = .ok (.iadd, 1) := by decide +kernel
theorem dL_law_546 : decode cL_law 546 = .ok (.iaload, 1) := by decide +kernel
theorem dL_law_547 : decode cL_law 547 = .ok (.invokevirtual 62, 3) := by decide +kernel
theorem dL_law_550 : decode cL_law 550 = .ok (.aload_n 2, 1) := by decide +kernel
theorem dL_law_551 : decode cL_law 551 = .ok (.aload_n 0, 1) := by decide +kernel
theorem dL_law_552 : decode cL_law 552 = .ok (.iload_n 3, 1) := by decide +kernel
theorem dL_law_553 : decode cL_law 553 = .ok (.iconst 1, 1) := by decide +kernel
theorem dL_law_554 : decode cL_law 554 = .ok (.iadd, 1) := by decide +kernel
theorem dL_law_555 : decode cL_law 555 = .ok (.iaload, 1) := by decide +kernel
theorem dL_law_556 : decode cL_law 556 = .ok (.invokevirtual 65, 3) := by decide +kernel
theorem dL_law_559 : decode cL_law 559 = .ok (.if_icmp .eq 860, 3) := by decide +kernel
theorem dL_law_562 : decode cL_law 562 = .ok (.iconst 0, 1) := by decide +kernel
theorem dL_law_563 : decode cL_law 563 = .ok (.ireturn, 1) := by decide +kernel
theorem dL_law_564 : decode cL_law 564 = .ok (.aload_n 1, 1) := by decide +kernel
theorem dL_law_565 : decode cL_law 565 = .ok (.invokevirtual 66, 3) := by decide +kernel
theorem dL_law_568 : decode cL_law 568 = .ok (.aload_n 2, 1) := by decide +kernel
theorem dL_law_569 : decode cL_law 569 = .ok (.invokevirtual 69, 3) := by decide +kernel
theorem dL_law_572 : decode cL_law 572 = .ok (.if_icmp .eq 847, 3) := by decide +kernel
theorem dL_law_575 : decode cL_law 575 = .ok (.iconst 0, 1) := by decide +kernel
theorem dL_law_576 : decode cL_law 576 = .ok (.ireturn, 1) := by decide +kernel
theorem dL_law_577 : decode cL_law 577 = .ok (.aload_n 1, 1) := by decide +kernel
theorem dL_law_578 : decode cL_law 578 = .ok (.aload_n 0, 1) := by decide +kernel
theorem dL_law_579 : decode cL_law 579 = .ok (.iload_n 3, 1) := by decide +kernel
theorem dL_law_580 : decode cL_law 580 = .ok (.iconst 1, 1) := by decide +kernel
theorem dL_law_581 : decode cL_law 581 = .ok (.iadd, 1) := by decide +kernel
theorem dL_law_582 : decode cL_law 582 = .ok (.iaload, 1) := by decide +kernel
theorem dL_law_583 : decode cL_law 583 = .ok (.invokevirtual 70, 3) := by decide +kernel
theorem dL_law_586 : decode cL_law 586 = .ok (.aload_n 2, 1) := by decide +kernel
theorem dL_law_587 : decode cL_law 587 = .ok (.aload_n 0, 1) := by decide +kernel
theorem dL_law_588 : decode cL_law 588 = .ok (.iload_n 3, 1) := by decide +kernel
theorem dL_law_589 : decode cL_law 589 = .ok (.iconst 1, 1) := by decide +kernel
theorem dL_law_590 : decode cL_law 590 = .ok (.iadd, 1) := by decide +kernel
theorem dL_law_591 : decode cL_law 591 = .ok (.iaload, 1) := by decide +kernel
theorem dL_law_592 : decode cL_law 592 = .ok (.invokevirtual 73, 3) := by decide +kernel
theorem dL_law_595 : decode cL_law 595 = .ok (.if_icmp .eq 824, 3) := by decide +kernel
theorem dL_law_598 : decode cL_law 598 = .ok (.iconst 0, 1) := by decide +kernel
theorem dL_law_599 : decode cL_law 599 = .ok (.ireturn, 1) := by decide +kernel
theorem dL_law_600 : decode cL_law 600 = .ok (.aload_n 1, 1) := by decide +kernel
theorem dL_law_601 : decode cL_law 601 = .ok (.aload_n 0, 1) := by decide +kernel
theorem dL_law_602 : decode cL_law 602 = .ok (.iload_n 3, 1) := by decide +kernel
theorem dL_law_603 : decode cL_law 603 = .ok (.iconst 1, 1) := by decide +kernel
theorem dL_law_604 : decode cL_law 604 = .ok (.iadd, 1) := by decide +kernel
theorem dL_law_605 : decode cL_law 605 = .ok (.iaload, 1) := by decide +kernel
theorem dL_law_606 : decode cL_law 606 = .ok (.invokevirtual 74, 3) := by decide +kernel
theorem dL_law_609 : decode cL_law 609 = .ok (.aload_n 2, 1) := by decide +kernel
theorem dL_law_610 : decode cL_law 610 = .ok (.aload_n 0, 1) := by decide +kernel
theorem dL_law_611 : decode cL_law 611 = .ok (.iload_n 3, 1) := by decide +kernel
theorem dL_law_612 : decode cL_law 612 = .ok (.iconst 1, 1) := by decide +kernel
theorem dL_law_613 : decode cL_law 613 = .ok (.iadd, 1) := by decide +kernel
theorem dL_law_614 : decode cL_law 614 = .ok (.iaload, 1) := by decide +kernel
theorem dL_law_615 : decode cL_law 615 = .ok (.invokevirtual 77, 3) := by decide +kernel
theorem dL_law_618 : decode cL_law 618 = .ok (.if_icmp .eq 801, 3) := by decide +kernel
theorem dL_law_621 : decode cL_law 621 = .ok (.iconst 0, 1) := by decide +kernel
theorem dL_law_622 : decode cL_law 622 = .ok (.ireturn, 1) := by decide +kernel
theorem dL_law_623 : decode cL_law 623 = .ok (.aload_n 1, 1) := by decide +kernel
theorem dL_law_624 : decode cL_law 624 = .ok (.aload_n 0, 1) := by decide +kernel
theorem dL_law_625 : decode cL_law 625 = .ok (.iload_n 3, 1) := by decide +kernel
theorem dL_law_626 : decode cL_law 626 = .ok (.iconst 1, 1) := by decide +kernel
theorem dL_law_627 : decode cL_law 627 = .ok (.iadd, 1) := by decide +kernel
theorem dL_law_628 : decode cL_law 628 = .ok (.iaload, 1) := by decide +kernel
theorem dL_law_629 : decode cL_law 629 = .ok (.invokevirtual 78, 3) := by decide +kernel
theorem dL_law_632 : decode cL_law 632 = .ok (.aload_n 2, 1) := by decide +kernel
theorem dL_law_633 : decode cL_law 633 = .ok (.aload_n 0, 1) := by decide +kernel
theorem dL_law_634 : decode cL_law 634 = .ok (.iload_n 3, 1) := by decide +kernel
theorem dL_law_635 : decode cL_law 635 = .ok (.iconst 1, 1) := by decide +kernel
theorem dL_law_636 : decode cL_law 636 = .ok (.iadd, 1) := by decide +kernel
theorem dL_law_637 : decode cL_law 637 = .ok (.iaload, 1) := by decide +kernel
theorem dL_law_638 : decode cL_law 638 = .ok (.invokevirtual 81, 3) := by decide +kernel
theorem dL_law_641 : decode cL_law 641 = .ok (.if_icmp .eq 778, 3) := by decide +kernel
theorem dL_law_644 : decode cL_law 644 = .ok (.iconst 0, 1) := by decide +kernel
theorem dL_law_645 : decode cL_law 645 = .ok (.ireturn, 1) := by decide +kernel
theorem dL_law_646 : decode cL_law 646 = .ok (.aload_n 1, 1) := by decide +kernel
theorem dL_law_647 : decode cL_law 647 = .ok (.aload_n 0, 1) := by decide +kernel
theorem dL_law_648 : decode cL_law 648 = .ok (.iload_n 3, 1) := by decide +kernel
theorem dL_law_649 : decode cL_law 649 = .ok (.iconst 1, 1) := by decide +kernel
theorem dL_law_650 : decode cL_law 650 = .ok (.iadd, 1) := by decide +kernel
theorem dL_law_651 : decode cL_law 651 = .ok (.iaload, 1) := by decide +kernel
theorem dL_law_652 : decode cL_law 652 = .ok (.aload_n 0, 1) := by decide +kernel
theorem dL_law_653 : decode cL_law 653 = .ok (.iload_n 3, 1) := by decide +kernel
theorem dL_law_654 : decode cL_law 654 = .ok (.iconst 2, 1) := by decide +kernel
theorem dL_law_655 : decode cL_law 655 = .ok (.iadd, 1) := by decide +kernel
theorem dL_law_656 : decode cL_law 656 = .ok (.iaload, 1) := by decide +kernel
theorem dL_law_657 : decode cL_law 657 = .ok (.aload_n 0, 1) := by decide +kernel
theorem dL_law_658 : decode cL_law 658 = .ok (.iload_n 3, 1) := by decide +kernel
theorem dL_law_659 : decode cL_law 659 = .ok (.iconst 3, 1) := by decide +kernel
theorem dL_law_660 : decode cL_law 660 = .ok (.iadd, 1) := by decide +kernel
theorem dL_law_661 : decode cL_law 661 = .ok (.iaload, 1) := by decide +kernel
theorem dL_law_662 : decode cL_law 662 = .ok (.invokevirtual 82, 3) := by decide +kernel
theorem dL_law_665 : decode cL_law 665 = .ok (.aload_n 2, 1) := by decide +kernel
theorem dL_law_666 : decode cL_law 666 = .ok (.aload_n 0, 1) := by decide +kernel
theorem dL_law_667 : decode cL_law 667 = .ok (.iload_n 3, 1) := by decide +kernel
theorem dL_law_668 : decode cL_law 668 = .ok (.iconst 1, 1) := by decide +kernel
theorem dL_law_669 : decode cL_law 669 = .ok (.iadd, 1) := by decide +kernel
theorem dL_law_670 : decode cL_law 670 = .ok (.iaload, 1) := by decide +kernel
theorem dL_law_671 : decode cL_law 671 = .ok (.aload_n 0, 1) := by decide +kernel
theorem dL_law_672 : decode cL_law 672 = .ok (.iload_n 3, 1) := by decide +kernel
theorem dL_law_673 : decode cL_law 673 = .ok (.iconst 2, 1) := by decide +kernel
theorem dL_law_674 : decode cL_law 674 = .ok (.iadd, 1) := by decide +kernel
theorem dL_law_675 : decode cL_law 675 = .ok (.iaload, 1) := by decide +kernel
theorem dL_law_676 : decode cL_law 676 = .ok (.aload_n 0, 1) := by decide +kernel
theorem dL_law_677 : decode cL_law 677 = .ok (.iload_n 3, 1) := by decide +kernel
theorem dL_law_678 : decode cL_law 678 = .ok (.iconst 3, 1) := by decide +kernel
theorem dL_law_679 : decode cL_law 679 = .ok (.iadd, 1) := by decide +kernel
theorem dL_law_680 : decode cL_law 680 = .ok (.iaload, 1) := by decide +kernel
theorem dL_law_681 : decode cL_law 681 = .ok (.invokevirtual 85, 3) := by decide +kernel
theorem dL_law_684 : decode cL_law 684 = .ok (.if_icmp .eq 735, 3) := by decide +kernel
theorem dL_law_687 : decode cL_law 687 = .ok (.iconst 0, 1) := by decide +kernel
theorem dL_law_688 : decode cL_law 688 = .ok (.ireturn, 1) := by decide +kernel
theorem dL_law_689 : decode cL_law 689 = .ok (.aload_n 1, 1) := by decide +kernel
theorem dL_law_690 : decode cL_law 690 = .ok (.aload_n 0, 1) := by decide +kernel
theorem dL_law_691 : decode cL_law 691 = .ok (.iload_n 3, 1) := by decide +kernel
theorem dL_law_692 : decode cL_law 692 = .ok (.iconst 1, 1) := by decide +kernel
theorem dL_law_693 : decode cL_law 693 = .ok (.iadd, 1) := by decide +kernel
theorem dL_law_694 : decode cL_law 694 = .ok (.iaload, 1) := by decide +kernel
theorem dL_law_695 : decode cL_law 695 = .ok (.aload_n 0, 1) := by decide +kernel
theorem dL_law_696 : decode cL_law 696 = .ok (.iload_n 3, 1) := by decide +kernel
theorem dL_law_697 : decode cL_law 697 = .ok (.iconst 2, 1) := by decide +kernel
theorem dL_law_698 : decode cL_law 698 = .ok (.iadd, 1) := by decide +kernel
theorem dL_law_699 : decode cL_law 699 = .ok (.iaload, 1) := by decide +kernel
theorem dL_law_700 : decode cL_law 700 = .ok (.aload_n 0, 1) := by decide +kernel
theorem dL_law_701 : decode cL_law 701 = .ok (.iload_n 3, 1) := by decide +kernel
theorem dL_law_702 : decode cL_law 702 = .ok (.iconst 3, 1) := by decide +kernel
theorem dL_law_703 : decode cL_law 703 = .ok (.iadd, 1) := by decide +kernel
theorem dL_law_704 : decode cL_law 704 = .ok (.iaload, 1) := by decide +kernel
theorem dL_law_705 : decode cL_law 705 = .ok (.invokevirtual 86, 3) := by decide +kernel
theorem dL_law_708 : decode cL_law 708 = .ok (.aload_n 2, 1) := by decide +kernel
theorem dL_law_709 : decode cL_law 709 = .ok (.aload_n 0, 1) := by decide +kernel
theorem dL_law_710 : decode cL_law 710 = .ok (.iload_n 3, 1) := by decide +kernel
theorem dL_law_711 : decode cL_law 711 = .ok (.iconst 1, 1) := by decide +kernel
theorem dL_law_712 : decode cL_law 712 = .ok (.iadd, 1) := by decide +kernel
theorem dL_law_713 : decode cL_law 713 = .ok (.iaload, 1) := by decide +kernel
theorem dL_law_714 : decode cL_law 714 = .ok (.aload_n 0, 1) := by decide +kernel
theorem dL_law_715 : decode cL_law 715 = .ok (.iload_n 3, 1) := by decide +kernel
theorem dL_law_716 : decode cL_law 716 = .ok (.iconst 2, 1) := by decide +kernel
theorem dL_law_717 : decode cL_law 717 = .ok (.iadd, 1) := by decide +kernel
theorem dL_law_718 : decode cL_law 718 = .ok (.iaload, 1) := by decide +kernel
theorem dL_law_719 : decode cL_law 719 = .ok (.aload_n 0, 1) := by decide +kernel
theorem dL_law_720 : decode cL_law 720 = .ok (.iload_n 3, 1) := by decide +kernel
theorem dL_law_721 : decode cL_law 721 = .ok (.iconst 3, 1) := by decide +kernel
theorem dL_law_722 : decode cL_law 722 = .ok (.iadd, 1) := by decide +kernel
theorem dL_law_723 : decode cL_law 723 = .ok (.iaload, 1) := by decide +kernel
theorem dL_law_724 : decode cL_law 724 = .ok (.invokevirtual 89, 3) := by decide +kernel
theorem dL_law_727 : decode cL_law 727 = .ok (.if_icmp .eq 692, 3) := by decide +kernel
theorem dL_law_730 : decode cL_law 730 = .ok (.iconst 0, 1) := by decide +kernel
theorem dL_law_731 : decode cL_law 731 = .ok (.ireturn, 1) := by decide +kernel
theorem dL_law_732 : decode cL_law 732 = .ok (.aload_n 1, 1) := by decide +kernel
theorem dL_law_733 : decode cL_law 733 = .ok (.aload_n 0, 1) := by decide +kernel
theorem dL_law_734 : decode cL_law 734 = .ok (.iload_n 3, 1) := by decide +kernel
theorem dL_law_735 : decode cL_law 735 = .ok (.iconst 1, 1) := by decide +kernel
theorem dL_law_736 : decode cL_law 736 = .ok (.iadd, 1) := by decide +kernel
theorem dL_law_737 : decode cL_law 737 = .ok (.iaload, 1) := by decide +kernel
theorem dL_law_738 : decode cL_law 738 = .ok (.aload_n 0, 1) := by decide +kernel
theorem dL_law_739 : decode cL_law 739 = .ok (.iload_n 3, 1) := by decide +kernel
theorem dL_law_740 : decode cL_law 740 = .ok (.iconst 2, 1) := by decide +kernel
theorem dL_law_741 : decode cL_law 741 = .ok (.iadd, 1) := by decide +kernel
theorem dL_law_742 : decode cL_law 742 = .ok (.iaload, 1) := by decide +kernel
theorem dL_law_743 : decode cL_law 743 = .ok (.invokevirtual 90, 3) := by decide +kernel
theorem dL_law_746 : decode cL_law 746 = .ok (.aload_n 2, 1) := by decide +kernel
theorem dL_law_747 : decode cL_law 747 = .ok (.aload_n 0, 1) := by decide +kernel
theorem dL_law_748 : decode cL_law 748 = .ok (.iload_n 3, 1) := by decide +kernel
theorem dL_law_749 : decode cL_law 749 = .ok (.iconst 1, 1) := by decide +kernel
theorem dL_law_750 : decode cL_law 750 = .ok (.iadd, 1) := by decide +kernel
theorem dL_law_751 : decode cL_law 751 = .ok (.iaload, 1) := by decide +kernel
theorem dL_law_752 : decode cL_law 752 = .ok (.aload_n 0, 1) := by decide +kernel
theorem dL_law_753 : decode cL_law 753 = .ok (.iload_n 3, 1) := by decide +kernel
theorem dL_law_754 : decode cL_law 754 = .ok (.iconst 2, 1) := by decide +kernel
theorem dL_law_755 : decode cL_law 755 = .ok (.iadd, 1) := by decide +kernel
theorem dL_law_756 : decode cL_law 756 = .ok (.iaload, 1) := by decide +kernel
theorem dL_law_757 : decode cL_law 757 = .ok (.invokevirtual 93, 3) := by decide +kernel
theorem dL_law_760 : decode cL_law 760 = .ok (.if_icmp .eq 659, 3) := by decide +kernel
theorem dL_law_763 : decode cL_law 763 = .ok (.iconst 0, 1) := by decide +kernel
theorem dL_law_764 : decode cL_law 764 = .ok (.ireturn, 1) := by decide +kernel
theorem dL_law_765 : decode cL_law 765 = .ok (.aload_n 1, 1) := by decide +kernel
theorem dL_law_766 : decode cL_law 766 = .ok (.aload_n 0, 1) := by decide +kernel
theorem dL_law_767 : decode cL_law 767 = .ok (.iload_n 3, 1) := by decide +kernel
theorem dL_law_768 : decode cL_law 768 = .ok (.iconst 1, 1) := by decide +kernel
theorem dL_law_769 : decode cL_law 769 = .ok (.iadd, 1) := by decide +kernel
theorem dL_law_770 : decode cL_law 770 = .ok (.iaload, 1) := by decide +kernel
theorem dL_law_771 : decode cL_law 771 = .ok (.aload_n 0, 1) := by decide +kernel
theorem dL_law_772 : decode cL_law 772 = .ok (.iload_n 3, 1) := by decide +kernel
theorem dL_law_773 : decode cL_law 773 = .ok (.iconst 2, 1) := by decide +kernel
theorem dL_law_774 : decode cL_law 774 = .ok (.iadd, 1) := by decide +kernel
theorem dL_law_775 : decode cL_law 775 = .ok (.iaload, 1) := by decide +kernel
theorem dL_law_776 : decode cL_law 776 = .ok (.invokevirtual 94, 3) := by decide +kernel
theorem dL_law_779 : decode cL_law 779 = .ok (.aload_n 2, 1) := by decide +kernel
theorem dL_law_780 : decode cL_law 780 = .ok (.aload_n 0, 1) := by decide +kernel
theorem dL_law_781 : decode cL_law 781 = .ok (.iload_n 3, 1) := by decide +kernel
theorem dL_law_782 : decode cL_law 782 = .ok (.iconst 1, 1) := by decide +kernel
theorem dL_law_783 : decode cL_law 783 = .ok (.iadd, 1) := by decide +kernel
theorem dL_law_784 : decode cL_law 784 = .ok (.iaload, 1) := by decide +kernel
theorem dL_law_785 : decode cL_law 785 = .ok (.aload_n 0, 1) := by decide +kernel
theorem dL_law_786 : decode cL_law 786 = .ok (.iload_n 3, 1) := by decide +kernel
theorem dL_law_787 : decode cL_law 787 = .ok (.iconst 2, 1) := by decide +kernel
theorem dL_law_788 : decode cL_law 788 = .ok (.iadd, 1) := by decide +kernel
theorem dL_law_789 : decode cL_law 789 = .ok (.iaload, 1) := by decide +kernel
theorem dL_law_790 : decode cL_law 790 = .ok (.invokevirtual 97, 3) := by decide +kernel
theorem dL_law_793 : decode cL_law 793 = .ok (.if_icmp .eq 626, 3) := by decide +kernel
theorem dL_law_796 : decode cL_law 796 = .ok (.iconst 0, 1) := by decide +kernel
theorem dL_law_797 : decode cL_law 797 = .ok (.ireturn, 1) := by decide +kernel
theorem dL_law_798 : decode cL_law 798 = .ok (.aload_n 1, 1) := by decide +kernel
theorem dL_law_799 : decode cL_law 799 = .ok (.aload_n 0, 1) := by decide +kernel
theorem dL_law_800 : decode cL_law 800 = .ok (.iload_n 3, 1) := by decide +kernel
theorem dL_law_801 : decode cL_law 801 = .ok (.iconst 1, 1) := by decide +kernel
theorem dL_law_802 : decode cL_law 802 = .ok (.iadd, 1) := by decide +kernel
theorem dL_law_803 : decode cL_law 803 = .ok (.iaload, 1) := by decide +kernel
theorem dL_law_804 : decode cL_law 804 = .ok (.aload_n 0, 1) := by decide +kernel
theorem dL_law_805 : decode cL_law 805 = .ok (.iload_n 3, 1) := by decide +kernel
theorem dL_law_806 : decode cL_law 806 = .ok (.iconst 2, 1) := by decide +kernel
theorem dL_law_807 : decode cL_law 807 = .ok (.iadd, 1) := by decide +kernel
theorem dL_law_808 : decode cL_law 808 = .ok (.iaload, 1) := by decide +kernel
theorem dL_law_809 : decode cL_law 809 = .ok (.aload_n 0, 1) := by decide +kernel
theorem dL_law_810 : decode cL_law 810 = .ok (.iload_n 3, 1) := by decide +kernel
theorem dL_law_811 : decode cL_law 811 = .ok (.iconst 3, 1) := by decide +kernel
theorem dL_law_812 : decode cL_law 812 = .ok (.iadd, 1) := by decide +kernel
theorem dL_law_813 : decode cL_law 813 = .ok (.iaload, 1) := by decide +kernel
theorem dL_law_814 : decode cL_law 814 = .ok (.invokevirtual 98, 3) := by decide +kernel
theorem dL_law_817 : decode cL_law 817 = .ok (.aload_n 2, 1) := by decide +kernel
theorem dL_law_818 : decode cL_law 818 = .ok (.aload_n 0, 1) := by decide +kernel
theorem dL_law_819 : decode cL_law 819 = .ok (.iload_n 3, 1) := by decide +kernel
theorem dL_law_820 : decode cL_law 820 = .ok (.iconst 1, 1) := by decide +kernel
theorem dL_law_821 : decode cL_law 821 = .ok (.iadd, 1) := by decide +kernel
theorem dL_law_822 : decode cL_law 822 = .ok (.iaload, 1) := by decide +kernel
theorem dL_law_823 : decode cL_law 823 = .ok (.aload_n 0, 1) := by decide +kernel
theorem dL_law_824 : decode cL_law 824 = .ok (.iload_n 3, 1) := by decide +kernel
theorem dL_law_825 : decode cL_law 825 = .ok (.iconst 2, 1) := by decide +kernel
theorem dL_law_826 : decode cL_law 826 = .ok (.iadd, 1) := by decide +kernel
theorem dL_law_827 : decode cL_law 827 = .ok (.iaload, 1) := by decide +kernel
theorem dL_law_828 : decode cL_law 828 = .ok (.aload_n 0, 1) := by decide +kernel
theorem dL_law_829 : decode cL_law 829 = .ok (.iload_n 3, 1) := by decide +kernel
theorem dL_law_830 : decode cL_law 830 = .ok (.iconst 3, 1) := by decide +kernel
theorem dL_law_831 : decode cL_law 831 = .ok (.iadd, 1) := by decide +kernel
theorem dL_law_832 : decode cL_law 832 = .ok (.iaload, 1) := by decide +kernel
theorem dL_law_833 : decode cL_law 833 = .ok (.invokevirtual 102, 3) := by decide +kernel
theorem dL_law_836 : decode cL_law 836 = .ok (.lcmp, 1) := by decide +kernel
theorem dL_law_837 : decode cL_law 837 = .ok (.ifCond .eq 582, 3) := by decide +kernel
theorem dL_law_840 : decode cL_law 840 = .ok (.iconst 0, 1) := by decide +kernel
theorem dL_law_841 : decode cL_law 841 = .ok (.ireturn, 1) := by decide +kernel
theorem dL_law_842 : decode cL_law 842 = .ok (.aload_n 1, 1) := by decide +kernel
theorem dL_law_843 : decode cL_law 843 = .ok (.aload_n 0, 1) := by decide +kernel
theorem dL_law_844 : decode cL_law 844 = .ok (.iload_n 3, 1) := by decide +kernel
theorem dL_law_845 : decode cL_law 845 = .ok (.iconst 1, 1) := by decide +kernel
theorem dL_law_846 : decode cL_law 846 = .ok (.iadd, 1) := by decide +kernel
theorem dL_law_847 : decode cL_law 847 = .ok (.iaload, 1) := by decide +kernel
theorem dL_law_848 : decode cL_law 848 = .ok (.aload_n 0, 1) := by decide +kernel
theorem dL_law_849 : decode cL_law 849 = .ok (.iload_n 3, 1) := by decide +kernel
theorem dL_law_850 : decode cL_law 850 = .ok (.iconst 2, 1) := by decide +kernel
theorem dL_law_851 : decode cL_law 851 = .ok (.iadd, 1) := by decide +kernel
theorem dL_law_852 : decode cL_law 852 = .ok (.iaload, 1) := by decide +kernel
theorem dL_law_853 : decode cL_law 853 = .ok (.aload_n 0, 1) := by decide +kernel
theorem dL_law_854 : decode cL_law 854 = .ok (.iload_n 3, 1) := by decide +kernel
theorem dL_law_855 : decode cL_law 855 = .ok (.iconst 3, 1) := by decide +kernel
theorem dL_law_856 : decode cL_law 856 = .ok (.iadd, 1) := by decide +kernel
theorem dL_law_857 : decode cL_law 857 = .ok (.iaload, 1) := by decide +kernel
theorem dL_law_858 : decode cL_law 858 = .ok (.invokevirtual 103, 3) := by decide +kernel
theorem dL_law_861 : decode cL_law 861 = .ok (.aload_n 2, 1) := by decide +kernel
theorem dL_law_862 : decode cL_law 862 = .ok (.aload_n 0, 1) := by decide +kernel
theorem dL_law_863 : decode cL_law 863 = .ok (.iload_n 3, 1) := by decide +kernel
theorem dL_law_864 : decode cL_law 864 = .ok (.iconst 1, 1) := by decide +kernel
theorem dL_law_865 : decode cL_law 865 = .ok (.iadd, 1) := by decide +kernel
theorem dL_law_866 : decode cL_law 866 = .ok (.iaload, 1) := by decide +kernel
theorem dL_law_867 : decode cL_law 867 = .ok (.aload_n 0, 1) := by decide +kernel
theorem dL_law_868 : decode cL_law 868 = .ok (.iload_n 3, 1) := by decide +kernel
theorem dL_law_869 : decode cL_law 869 = .ok (.iconst 2, 1) := by decide +kernel
theorem dL_law_870 : decode cL_law 870 = .ok (.iadd, 1) := by decide +kernel
theorem dL_law_871 : decode cL_law 871 = .ok (.iaload, 1) := by decide +kernel
theorem dL_law_872 : decode cL_law 872 = .ok (.aload_n 0, 1) := by decide +kernel
theorem dL_law_873 : decode cL_law 873 = .ok (.iload_n 3, 1) := by decide +kernel
theorem dL_law_874 : decode cL_law 874 = .ok (.iconst 3, 1) := by decide +kernel
theorem dL_law_875 : decode cL_law 875 = .ok (.iadd, 1) := by decide +kernel
theorem dL_law_876 : decode cL_law 876 = .ok (.iaload, 1) := by decide +kernel
theorem dL_law_877 : decode cL_law 877 = .ok (.invokevirtual 106, 3) := by decide +kernel
theorem dL_law_880 : decode cL_law 880 = .ok (.if_icmp .eq 539, 3) := by decide +kernel
theorem dL_law_883 : decode cL_law 883 = .ok (.iconst 0, 1) := by decide +kernel
theorem dL_law_884 : decode cL_law 884 = .ok (.ireturn, 1) := by decide +kernel
theorem dL_law_885 : decode cL_law 885 = .ok (.aload_n 1, 1) := by decide +kernel
theorem dL_law_886 : decode cL_law 886 = .ok (.aload_n 0, 1) := by decide +kernel
theorem dL_law_887 : decode cL_law 887 = .ok (.iload_n 3, 1) := by decide +kernel
theorem dL_law_888 : decode cL_law 888 = .ok (.iconst 1, 1) := by decide +kernel
theorem dL_law_889 : decode cL_law 889 = .ok (.iadd, 1) := by decide +kernel
theorem dL_law_890 : decode cL_law 890 = .ok (.iaload, 1) := by decide +kernel
theorem dL_law_891 : decode cL_law 891 = .ok (.invokevirtual 107, 3) := by decide +kernel
theorem dL_law_894 : decode cL_law 894 = .ok (.aload_n 2, 1) := by decide +kernel
theorem dL_law_895 : decode cL_law 895 = .ok (.aload_n 0, 1) := by decide +kernel
theorem dL_law_896 : decode cL_law 896 = .ok (.iload_n 3, 1) := by decide +kernel
theorem dL_law_897 : decode cL_law 897 = .ok (.iconst 1, 1) := by decide +kernel
theorem dL_law_898 : decode cL_law 898 = .ok (.iadd, 1) := by decide +kernel
theorem dL_law_899 : decode cL_law 899 = .ok (.iaload, 1) := by decide +kernel
theorem dL_law_900 : decode cL_law 900 = .ok (.invokevirtual 110, 3) := by decide +kernel
theorem dL_law_903 : decode cL_law 903 = .ok (.if_icmp .eq 516, 3) := by decide +kernel
theorem dL_law_906 : decode cL_law 906 = .ok (.iconst 0, 1) := by decide +kernel
theorem dL_law_907 : decode cL_law 907 = .ok (.ireturn, 1) := by decide +kernel
theorem dL_law_908 : decode cL_law 908 = .ok (.aload_n 1, 1) := by decide +kernel
theorem dL_law_909 : decode cL_law 909 = .ok (.invokevirtual 111, 3) := by decide +kernel
theorem dL_law_912 : decode cL_law 912 = .ok (.aload_n 2, 1) := by decide +kernel
theorem dL_law_913 : decode cL_law 913 = .ok (.invokevirtual 114, 3) := by decide +kernel
theorem dL_law_916 : decode cL_law 916 = .ok (.if_icmp .eq 503, 3) := by decide +kernel
theorem dL_law_919 : decode cL_law 919 = .ok (.iconst 0, 1) := by decide +kernel
theorem dL_law_920 : decode cL_law 920 = .ok (.ireturn, 1) := by decide +kernel
theorem dL_law_921 : decode cL_law 921 = .ok (.aload_n 1, 1) := by decide +kernel
theorem dL_law_922 : decode cL_law 922 = .ok (.aload_n 0, 1) := by decide +kernel
theorem dL_law_923 : decode cL_law 923 = .ok (.iload_n 3, 1) := by decide +kernel
theorem dL_law_924 : decode cL_law 924 = .ok (.iconst 1, 1) := by decide +kernel
theorem dL_law_925 : decode cL_law 925 = .ok (.iadd, 1) := by decide +kernel
theorem dL_law_926 : decode cL_law 926 = .ok (.iaload, 1) := by decide +kernel
theorem dL_law_927 : decode cL_law 927 = .ok (.aload_n 0, 1) := by decide +kernel
theorem dL_law_928 : decode cL_law 928 = .ok (.iload_n 3, 1) := by decide +kernel
theorem dL_law_929 : decode cL_law 929 = .ok (.iconst 2, 1) := by decide +kernel
theorem dL_law_930 : decode cL_law 930 = .ok (.iadd, 1) := by decide +kernel
theorem dL_law_931 : decode cL_law 931 = .ok (.iaload, 1) := by decide +kernel
theorem dL_law_932 : decode cL_law 932 = .ok (.invokevirtual 115, 3) := by decide +kernel
theorem dL_law_935 : decode cL_law 935 = .ok (.aload_n 2, 1) := by decide +kernel
theorem dL_law_936 : decode cL_law 936 = .ok (.aload_n 0, 1) := by decide +kernel
theorem dL_law_937 : decode cL_law 937 = .ok (.iload_n 3, 1) := by decide +kernel
theorem dL_law_938 : decode cL_law 938 = .ok (.iconst 1, 1) := by decide +kernel
theorem dL_law_939 : decode cL_law 939 = .ok (.iadd, 1) := by decide +kernel
theorem dL_law_940 : decode cL_law 940 = .ok (.iaload, 1) := by decide +kernel
theorem dL_law_941 : decode cL_law 941 = .ok (.aload_n 0, 1) := by decide +kernel
theorem dL_law_942 : decode cL_law 942 = .ok (.iload_n 3, 1) := by decide +kernel
theorem dL_law_943 : decode cL_law 943 = .ok (.iconst 2, 1) := by decide +kernel
theorem dL_law_944 : decode cL_law 944 = .ok (.iadd, 1) := by decide +kernel
theorem dL_law_945 : decode cL_law 945 = .ok (.iaload, 1) := by decide +kernel
theorem dL_law_946 : decode cL_law 946 = .ok (.invokevirtual 118, 3) := by decide +kernel
theorem dL_law_949 : decode cL_law 949 = .ok (.if_icmp .eq 470, 3) := by decide +kernel
theorem dL_law_952 : decode cL_law 952 = .ok (.iconst 0, 1) := by decide +kernel
theorem dL_law_953 : decode cL_law 953 = .ok (.ireturn, 1) := by decide +kernel
theorem dL_law_954 : decode cL_law 954 = .ok (.aload_n 1, 1) := by decide +kernel
theorem dL_law_955 : decode cL_law 955 = .ok (.aload_n 0, 1) := by decide +kernel
theorem dL_law_956 : decode cL_law 956 = .ok (.iload_n 3, 1) := by decide +kernel
theorem dL_law_957 : decode cL_law 957 = .ok (.iconst 1, 1) := by decide +kernel
theorem dL_law_958 : decode cL_law 958 = .ok (.iadd, 1) := by decide +kernel
theorem dL_law_959 : decode cL_law 959 = .ok (.iaload, 1) := by decide +kernel
theorem dL_law_960 : decode cL_law 960 = .ok (.invokevirtual 119, 3) := by decide +kernel
theorem dL_law_963 : decode cL_law 963 = .ok (.aload_n 2, 1) := by decide +kernel
theorem dL_law_964 : decode cL_law 964 = .ok (.aload_n 0, 1) := by decide +kernel
theorem dL_law_965 : decode cL_law 965 = .ok (.iload_n 3, 1) := by decide +kernel
theorem dL_law_966 : decode cL_law 966 = .ok (.iconst 1, 1) := by decide +kernel
theorem dL_law_967 : decode cL_law 967 = .ok (.iadd, 1) := by decide +kernel
theorem dL_law_968 : decode cL_law 968 = .ok (.iaload, 1) := by decide +kernel
theorem dL_law_969 : decode cL_law 969 = .ok (.invokevirtual 122, 3) := by decide +kernel
theorem dL_law_972 : decode cL_law 972 = .ok (.if_icmp .eq 447, 3) := by decide +kernel
theorem dL_law_975 : decode cL_law 975 = .ok (.iconst 0, 1) := by decide +kernel
theorem dL_law_976 : decode cL_law 976 = .ok (.ireturn, 1) := by decide +kernel
theorem dL_law_977 : decode cL_law 977 = .ok (.aload_n 1, 1) := by decide +kernel
theorem dL_law_978 : decode cL_law 978 = .ok (.aload_n 0, 1) := by decide +kernel
theorem dL_law_979 : decode cL_law 979 = .ok (.iload_n 3, 1) := by decide +kernel
theorem dL_law_980 : decode cL_law 980 = .ok (.iconst 1, 1) := by decide +kernel
theorem dL_law_981 : decode cL_law 981 = .ok (.iadd, 1) := by decide +kernel
theorem dL_law_982 : decode cL_law 982 = .ok (.iaload, 1) := by decide +kernel
theorem dL_law_983 : decode cL_law 983 = .ok (.aload_n 0, 1) := by decide +kernel
theorem dL_law_984 : decode cL_law 984 = .ok (.iload_n 3, 1) := by decide +kernel
theorem dL_law_985 : decode cL_law 985 = .ok (.iconst 2, 1) := by decide +kernel
theorem dL_law_986 : decode cL_law 986 = .ok (.iadd, 1) := by decide +kernel
theorem dL_law_987 : decode cL_law 987 = .ok (.iaload, 1) := by decide +kernel
theorem dL_law_988 : decode cL_law 988 = .ok (.aload_n 0, 1) := by decide +kernel
theorem dL_law_989 : decode cL_law 989 = .ok (.iload_n 3, 1) := by decide +kernel
theorem dL_law_990 : decode cL_law 990 = .ok (.iconst 3, 1) := by decide +kernel
theorem dL_law_991 : decode cL_law 991 = .ok (.iadd, 1) := by decide +kernel
theorem dL_law_992 : decode cL_law 992 = .ok (.iaload, 1) := by decide +kernel
theorem dL_law_993 : decode cL_law 993 = .ok (.invokevirtual 123, 3) := by decide +kernel
theorem dL_law_996 : decode cL_law 996 = .ok (.aload_n 2, 1) := by decide +kernel
theorem dL_law_997 : decode cL_law 997 = .ok (.aload_n 0, 1) := by decide +kernel
theorem dL_law_998 : decode cL_law 998 = .ok (.iload_n 3, 1) := by decide +kernel
theorem dL_law_999 : decode cL_law 999 = .ok (.iconst 1, 1) := by decide +kernel
theorem dL_law_1000 : decode cL_law 1000 = .ok (.iadd, 1) := by decide +kernel
theorem dL_law_1001 : decode cL_law 1001 = .ok (.iaload, 1) := by decide +kernel
theorem dL_law_1002 : decode cL_law 1002 = .ok (.aload_n 0, 1) := by decide +kernel
theorem dL_law_1003 : decode cL_law 1003 = .ok (.iload_n 3, 1) := by decide +kernel
theorem dL_law_1004 : decode cL_law 1004 = .ok (.iconst 2, 1) := by decide +kernel
theorem dL_law_1005 : decode cL_law 1005 = .ok (.iadd, 1) := by decide +kernel
theorem dL_law_1006 : decode cL_law 1006 = .ok (.iaload, 1) := by decide +kernel
theorem dL_law_1007 : decode cL_law 1007 = .ok (.aload_n 0, 1) := by decide +kernel
theorem dL_law_1008 : decode cL_law 1008 = .ok (.iload_n 3, 1) := by decide +kernel
theorem dL_law_1009 : decode cL_law 1009 = .ok (.iconst 3, 1) := by decide +kernel
theorem dL_law_1010 : decode cL_law 1010 = .ok (.iadd, 1) := by decide +kernel
theorem dL_law_1011 : decode cL_law 1011 = .ok (.iaload, 1) := by decide +kernel
theorem dL_law_1012 : decode cL_law 1012 = .ok (.invokevirtual 126, 3) := by decide +kernel
theorem dL_law_1015 : decode cL_law 1015 = .ok (.if_icmp .eq 404, 3) := by decide +kernel
theorem dL_law_1018 : decode cL_law 1018 = .ok (.iconst 0, 1) := by decide +kernel
theorem dL_law_1019 : decode cL_law 1019 = .ok (.ireturn, 1) := by decide +kernel
theorem dL_law_1020 : decode cL_law 1020 = .ok (.aload_n 1, 1) := by decide +kernel
theorem dL_law_1021 : decode cL_law 1021 = .ok (.aload_n 0, 1) := by decide +kernel
theorem dL_law_1022 : decode cL_law 1022 = .ok (.iload_n 3, 1) := by decide +kernel
theorem dL_law_1023 : decode cL_law 1023 = .ok (.iconst 1, 1) := by decide +kernel
theorem dL_law_1024 : decode cL_law 1024 = .ok (.iadd, 1) := by decide +kernel
theorem dL_law_1025 : decode cL_law 1025 = .ok (.iaload, 1) := by decide +kernel
theorem dL_law_1026 : decode cL_law 1026 = .ok (.aload_n 0, 1) := by decide +kernel
theorem dL_law_1027 : decode cL_law 1027 = .ok (.iload_n 3, 1) := by decide +kernel
theorem dL_law_1028 : decode cL_law 1028 = .ok (.iconst 2, 1) := by decide +kernel
theorem dL_law_1029 : decode cL_law 1029 = .ok (.iadd, 1) := by decide +kernel
theorem dL_law_1030 : decode cL_law 1030 = .ok (.iaload, 1) := by decide +kernel
theorem dL_law_1031 : decode cL_law 1031 = .ok (.aload_n 0, 1) := by decide +kernel
theorem dL_law_1032 : decode cL_law 1032 = .ok (.iload_n 3, 1) := by decide +kernel
theorem dL_law_1033 : decode cL_law 1033 = .ok (.iconst 3, 1) := by decide +kernel
theorem dL_law_1034 : decode cL_law 1034 = .ok (.iadd, 1) := by decide +kernel
theorem dL_law_1035 : decode cL_law 1035 = .ok (.iaload, 1) := by decide +kernel
theorem dL_law_1036 : decode cL_law 1036 = .ok (.invokevirtual 127, 3) := by decide +kernel
theorem dL_law_1039 : decode cL_law 1039 = .ok (.aload_n 2, 1) := by decide +kernel
theorem dL_law_1040 : decode cL_law 1040 = .ok (.aload_n 0, 1) := by decide +kernel
theorem dL_law_1041 : decode cL_law 1041 = .ok (.iload_n 3, 1) := by decide +kernel
theorem dL_law_1042 : decode cL_law 1042 = .ok (.iconst 1, 1) := by decide +kernel
theorem dL_law_1043 : decode cL_law 1043 = .ok (.iadd, 1) := by decide +kernel
theorem dL_law_1044 : decode cL_law 1044 = .ok (.iaload, 1) := by decide +kernel
theorem dL_law_1045 : decode cL_law 1045 = .ok (.aload_n 0, 1) := by decide +kernel
theorem dL_law_1046 : decode cL_law 1046 = .ok (.iload_n 3, 1) := by decide +kernel
theorem dL_law_1047 : decode cL_law 1047 = .ok (.iconst 2, 1) := by decide +kernel
theorem dL_law_1048 : decode cL_law 1048 = .ok (.iadd, 1) := by decide +kernel
theorem dL_law_1049 : decode cL_law 1049 = .ok (.iaload, 1) := by decide +kernel
theorem dL_law_1050 : decode cL_law 1050 = .ok (.aload_n 0, 1) := by decide +kernel
theorem dL_law_1051 : decode cL_law 1051 = .ok (.iload_n 3, 1) := by decide +kernel
theorem dL_law_1052 : decode cL_law 1052 = .ok (.iconst 3, 1) := by decide +kernel
theorem dL_law_1053 : decode cL_law 1053 = .ok (.iadd, 1) := by decide +kernel
theorem dL_law_1054 : decode cL_law 1054 = .ok (.iaload, 1) := by decide +kernel
theorem dL_law_1055 : decode cL_law 1055 = .ok (.invokevirtual 130, 3) := by decide +kernel
theorem dL_law_1058 : decode cL_law 1058 = .ok (.if_icmp .eq 361, 3) := by decide +kernel
theorem dL_law_1061 : decode cL_law 1061 = .ok (.iconst 0, 1) := by decide +kernel
theorem dL_law_1062 : decode cL_law 1062 = .ok (.ireturn, 1) := by decide +kernel
theorem dL_law_1063 : decode cL_law 1063 = .ok (.aload_n 1, 1) := by decide +kernel
theorem dL_law_1064 : decode cL_law 1064 = .ok (.aload_n 0, 1) := by decide +kernel
theorem dL_law_1065 : decode cL_law 1065 = .ok (.iload_n 3, 1) := by decide +kernel
theorem dL_law_1066 : decode cL_law 1066 = .ok (.iconst 1, 1) := by decide +kernel
theorem dL_law_1067 : decode cL_law 1067 = .ok (.iadd, 1) := by decide +kernel
theorem dL_law_1068 : decode cL_law 1068 = .ok (.iaload, 1) := by decide +kernel
theorem dL_law_1069 : decode cL_law 1069 = .ok (.aload_n 0, 1) := by decide +kernel
theorem dL_law_1070 : decode cL_law 1070 = .ok (.iload_n 3, 1) := by decide +kernel
theorem dL_law_1071 : decode cL_law 1071 = .ok (.iconst 2, 1) := by decide +kernel
theorem dL_law_1072 : decode cL_law 1072 = .ok (.iadd, 1) := by decide +kernel
theorem dL_law_1073 : decode cL_law 1073 = .ok (.iaload, 1) := by decide +kernel
theorem dL_law_1074 : decode cL_law 1074 = .ok (.invokevirtual 131, 3) := by decide +kernel
theorem dL_law_1077 : decode cL_law 1077 = .ok (.aload_n 2, 1) := by decide +kernel
theorem dL_law_1078 : decode cL_law 1078 = .ok (.aload_n 0, 1) := by decide +kernel
theorem dL_law_1079 : decode cL_law 1079 = .ok (.iload_n 3, 1) := by decide +kernel
theorem dL_law_1080 : decode cL_law 1080 = .ok (.iconst 1, 1) := by decide +kernel
theorem dL_law_1081 : decode cL_law 1081 = .ok (.iadd, 1) := by decide +kernel
theorem dL_law_1082 : decode cL_law 1082 = .ok (.iaload, 1) := by decide +kernel
theorem dL_law_1083 : decode cL_law 1083 = .ok (.aload_n 0, 1) := by decide +kernel
theorem dL_law_1084 : decode cL_law 1084 = .ok (.iload_n 3, 1) := by decide +kernel
theorem dL_law_1085 : decode cL_law 1085 = .ok (.iconst 2, 1) := by decide +kernel
theorem dL_law_1086 : decode cL_law 1086 = .ok (.iadd, 1) := by decide +kernel
theorem dL_law_1087 : decode cL_law 1087 = .ok (.iaload, 1) := by decide +kernel
theorem dL_law_1088 : decode cL_law 1088 = .ok (.invokevirtual 134, 3) := by decide +kernel
theorem dL_law_1091 : decode cL_law 1091 = .ok (.if_icmp .eq 328, 3) := by decide +kernel
theorem dL_law_1094 : decode cL_law 1094 = .ok (.iconst 0, 1) := by decide +kernel
theorem dL_law_1095 : decode cL_law 1095 = .ok (.ireturn, 1) := by decide +kernel
theorem dL_law_1096 : decode cL_law 1096 = .ok (.aload_n 1, 1) := by decide +kernel
theorem dL_law_1097 : decode cL_law 1097 = .ok (.aload_n 0, 1) := by decide +kernel
theorem dL_law_1098 : decode cL_law 1098 = .ok (.iload_n 3, 1) := by decide +kernel
theorem dL_law_1099 : decode cL_law 1099 = .ok (.iconst 1, 1) := by decide +kernel
theorem dL_law_1100 : decode cL_law 1100 = .ok (.iadd, 1) := by decide +kernel
theorem dL_law_1101 : decode cL_law 1101 = .ok (.iaload, 1) := by decide +kernel
theorem dL_law_1102 : decode cL_law 1102 = .ok (.invokevirtual 135, 3) := by decide +kernel
theorem dL_law_1105 : decode cL_law 1105 = .ok (.aload_n 2, 1) := by decide +kernel
theorem dL_law_1106 : decode cL_law 1106 = .ok (.aload_n 0, 1) := by decide +kernel
theorem dL_law_1107 : decode cL_law 1107 = .ok (.iload_n 3, 1) := by decide +kernel
theorem dL_law_1108 : decode cL_law 1108 = .ok (.iconst 1, 1) := by decide +kernel
theorem dL_law_1109 : decode cL_law 1109 = .ok (.iadd, 1) := by decide +kernel
theorem dL_law_1110 : decode cL_law 1110 = .ok (.iaload, 1) := by decide +kernel
theorem dL_law_1111 : decode cL_law 1111 = .ok (.invokevirtual 138, 3) := by decide +kernel
theorem dL_law_1114 : decode cL_law 1114 = .ok (.if_icmp .eq 305, 3) := by decide +kernel
theorem dL_law_1117 : decode cL_law 1117 = .ok (.iconst 0, 1) := by decide +kernel
theorem dL_law_1118 : decode cL_law 1118 = .ok (.ireturn, 1) := by decide +kernel
theorem dL_law_1119 : decode cL_law 1119 = .ok (.aload_n 1, 1) := by decide +kernel
theorem dL_law_1120 : decode cL_law 1120 = .ok (.aload_n 0, 1) := by decide +kernel
theorem dL_law_1121 : decode cL_law 1121 = .ok (.iload_n 3, 1) := by decide +kernel
theorem dL_law_1122 : decode cL_law 1122 = .ok (.iconst 1, 1) := by decide +kernel
theorem dL_law_1123 : decode cL_law 1123 = .ok (.iadd, 1) := by decide +kernel
theorem dL_law_1124 : decode cL_law 1124 = .ok (.iaload, 1) := by decide +kernel
theorem dL_law_1125 : decode cL_law 1125 = .ok (.aload_n 0, 1) := by decide +kernel
theorem dL_law_1126 : decode cL_law 1126 = .ok (.iload_n 3, 1) := by decide +kernel
theorem dL_law_1127 : decode cL_law 1127 = .ok (.iconst 2, 1) := by decide +kernel
theorem dL_law_1128 : decode cL_law 1128 = .ok (.iadd, 1) := by decide +kernel
theorem dL_law_1129 : decode cL_law 1129 = .ok (.iaload, 1) := by decide +kernel
theorem dL_law_1130 : decode cL_law 1130 = .ok (.aload_n 0, 1) := by decide +kernel
theorem dL_law_1131 : decode cL_law 1131 = .ok (.iload_n 3, 1) := by decide +kernel
theorem dL_law_1132 : decode cL_law 1132 = .ok (.iconst 3, 1) := by decide +kernel
theorem dL_law_1133 : decode cL_law 1133 = .ok (.iadd, 1) := by decide +kernel
theorem dL_law_1134 : decode cL_law 1134 = .ok (.iaload, 1) := by decide +kernel
theorem dL_law_1135 : decode cL_law 1135 = .ok (.aload_n 0, 1) := by decide +kernel
theorem dL_law_1136 : decode cL_law 1136 = .ok (.iload_n 3, 1) := by decide +kernel
theorem dL_law_1137 : decode cL_law 1137 = .ok (.iconst 4, 1) := by decide +kernel
theorem dL_law_1138 : decode cL_law 1138 = .ok (.iadd, 1) := by decide +kernel
theorem dL_law_1139 : decode cL_law 1139 = .ok (.iaload, 1) := by decide +kernel
theorem dL_law_1140 : decode cL_law 1140 = .ok (.aload_n 0, 1) := by decide +kernel
theorem dL_law_1141 : decode cL_law 1141 = .ok (.iload_n 3, 1) := by decide +kernel
theorem dL_law_1142 : decode cL_law 1142 = .ok (.iconst 5, 1) := by decide +kernel
theorem dL_law_1143 : decode cL_law 1143 = .ok (.iadd, 1) := by decide +kernel
theorem dL_law_1144 : decode cL_law 1144 = .ok (.iaload, 1) := by decide +kernel
theorem dL_law_1145 : decode cL_law 1145 = .ok (.invokevirtual 139, 3) := by decide +kernel
theorem dL_law_1148 : decode cL_law 1148 = .ok (.aload_n 2, 1) := by decide +kernel
theorem dL_law_1149 : decode cL_law 1149 = .ok (.aload_n 0, 1) := by decide +kernel
theorem dL_law_1150 : decode cL_law 1150 = .ok (.iload_n 3, 1) := by decide +kernel
theorem dL_law_1151 : decode cL_law 1151 = .ok (.iconst 1, 1) := by decide +kernel
theorem dL_law_1152 : decode cL_law 1152 = .ok (.iadd, 1) := by decide +kernel
theorem dL_law_1153 : decode cL_law 1153 = .ok (.iaload, 1) := by decide +kernel
theorem dL_law_1154 : decode cL_law 1154 = .ok (.aload_n 0, 1) := by decide +kernel
theorem dL_law_1155 : decode cL_law 1155 = .ok (.iload_n 3, 1) := by decide +kernel
theorem dL_law_1156 : decode cL_law 1156 = .ok (.iconst 2, 1) := by decide +kernel
theorem dL_law_1157 : decode cL_law 1157 = .ok (.iadd, 1) := by decide +kernel
theorem dL_law_1158 : decode cL_law 1158 = .ok (.iaload, 1) := by decide +kernel
theorem dL_law_1159 : decode cL_law 1159 = .ok (.aload_n 0, 1) := by decide +kernel
theorem dL_law_1160 : decode cL_law 1160 = .ok (.iload_n 3, 1) := by decide +kernel
theorem dL_law_1161 : decode cL_law 1161 = .ok (.iconst 3, 1) := by decide +kernel
theorem dL_law_1162 : decode cL_law 1162 = .ok (.iadd, 1) := by decide +kernel
theorem dL_law_1163 : decode cL_law 1163 = .ok (.iaload, 1) := by decide +kernel
theorem dL_law_1164 : decode cL_law 1164 = .ok (.aload_n 0, 1) := by decide +kernel
theorem dL_law_1165 : decode cL_law 1165 = .ok (.iload_n 3, 1) := by decide +kernel
theorem dL_law_1166 : decode cL_law 1166 = .ok (.iconst 4, 1) := by decide +kernel
theorem dL_law_1167 : decode cL_law 1167 = .ok (.iadd, 1) := by decide +kernel
theorem dL_law_1168 : decode cL_law 1168 = .ok (.iaload, 1) := by decide +kernel
theorem dL_law_1169 : decode cL_law 1169 = .ok (.aload_n 0, 1) := by decide +kernel
theorem dL_law_1170 : decode cL_law 1170 = .ok (.iload_n 3, 1) := by decide +kernel
theorem dL_law_1171 : decode cL_law 1171 = .ok (.iconst 5, 1) := by decide +kernel
theorem dL_law_1172 : decode cL_law 1172 = .ok (.iadd, 1) := by decide +kernel
theorem dL_law_1173 : decode cL_law 1173 = .ok (.iaload, 1) := by decide +kernel
theorem dL_law_1174 : decode cL_law 1174 = .ok (.invokevirtual 143, 3) := by decide +kernel
theorem dL_law_1177 : decode cL_law 1177 = .ok (.if_icmp .eq 242, 3) := by decide +kernel
theorem dL_law_1180 : decode cL_law 1180 = .ok (.iconst 0, 1) := by decide +kernel
theorem dL_law_1181 : decode cL_law 1181 = .ok (.ireturn, 1) := by decide +kernel
theorem dL_law_1182 : decode cL_law 1182 = .ok (.aload_n 1, 1) := by decide +kernel
theorem dL_law_1183 : decode cL_law 1183 = .ok (.aload_n 0, 1) := by decide +kernel
theorem dL_law_1184 : decode cL_law 1184 = .ok (.iload_n 3, 1) := by decide +kernel
theorem dL_law_1185 : decode cL_law 1185 = .ok (.iconst 1, 1) := by decide +kernel
theorem dL_law_1186 : decode cL_law 1186 = .ok (.iadd, 1) := by decide +kernel
theorem dL_law_1187 : decode cL_law 1187 = .ok (.iaload, 1) := by decide +kernel
theorem dL_law_1188 : decode cL_law 1188 = .ok (.aload_n 0, 1) := by decide +kernel
theorem dL_law_1189 : decode cL_law 1189 = .ok (.iload_n 3, 1) := by decide +kernel
theorem dL_law_1190 : decode cL_law 1190 = .ok (.iconst 2, 1) := by decide +kernel
theorem dL_law_1191 : decode cL_law 1191 = .ok (.iadd, 1) := by decide +kernel
theorem dL_law_1192 : decode cL_law 1192 = .ok (.iaload, 1) := by decide +kernel
theorem dL_law_1193 : decode cL_law 1193 = .ok (.aload_n 0, 1) := by decide +kernel
theorem dL_law_1194 : decode cL_law 1194 = .ok (.iload_n 3, 1) := by decide +kernel
theorem dL_law_1195 : decode cL_law 1195 = .ok (.iconst 3, 1) := by decide +kernel
theorem dL_law_1196 : decode cL_law 1196 = .ok (.iadd, 1) := by decide +kernel
theorem dL_law_1197 : decode cL_law 1197 = .ok (.iaload, 1) := by decide +kernel
theorem dL_law_1198 : decode cL_law 1198 = .ok (.invokevirtual 144, 3) := by decide +kernel
theorem dL_law_1201 : decode cL_law 1201 = .ok (.aload_n 2, 1) := by decide +kernel
theorem dL_law_1202 : decode cL_law 1202 = .ok (.aload_n 0, 1) := by decide +kernel
theorem dL_law_1203 : decode cL_law 1203 = .ok (.iload_n 3, 1) := by decide +kernel
theorem dL_law_1204 : decode cL_law 1204 = .ok (.iconst 1, 1) := by decide +kernel
theorem dL_law_1205 : decode cL_law 1205 = .ok (.iadd, 1) := by decide +kernel
theorem dL_law_1206 : decode cL_law 1206 = .ok (.iaload, 1) := by decide +kernel
theorem dL_law_1207 : decode cL_law 1207 = .ok (.aload_n 0, 1) := by decide +kernel
theorem dL_law_1208 : decode cL_law 1208 = .ok (.iload_n 3, 1) := by decide +kernel
theorem dL_law_1209 : decode cL_law 1209 = .ok (.iconst 2, 1) := by decide +kernel
theorem dL_law_1210 : decode cL_law 1210 = .ok (.iadd, 1) := by decide +kernel
theorem dL_law_1211 : decode cL_law 1211 = .ok (.iaload, 1) := by decide +kernel
theorem dL_law_1212 : decode cL_law 1212 = .ok (.aload_n 0, 1) := by decide +kernel
theorem dL_law_1213 : decode cL_law 1213 = .ok (.iload_n 3, 1) := by decide +kernel
theorem dL_law_1214 : decode cL_law 1214 = .ok (.iconst 3, 1) := by decide +kernel
theorem dL_law_1215 : decode cL_law 1215 = .ok (.iadd, 1) := by decide +kernel
theorem dL_law_1216 : decode cL_law 1216 = .ok (.iaload, 1) := by decide +kernel
theorem dL_law_1217 : decode cL_law 1217 = .ok (.invokevirtual 147, 3) := by decide +kernel
theorem dL_law_1220 : decode cL_law 1220 = .ok (.if_icmp .eq 199, 3) := by decide +kernel
theorem dL_law_1223 : decode cL_law 1223 = .ok (.iconst 0, 1) := by decide +kernel
theorem dL_law_1224 : decode cL_law 1224 = .ok (.ireturn, 1) := by decide +kernel
theorem dL_law_1225 : decode cL_law 1225 = .ok (.aload_n 1, 1) := by decide +kernel
theorem dL_law_1226 : decode cL_law 1226 = .ok (.aload_n 0, 1) := by decide +kernel
theorem dL_law_1227 : decode cL_law 1227 = .ok (.iload_n 3, 1) := by decide +kernel
theorem dL_law_1228 : decode cL_law 1228 = .ok (.iconst 1, 1) := by decide +kernel
theorem dL_law_1229 : decode cL_law 1229 = .ok (.iadd, 1) := by decide +kernel
theorem dL_law_1230 : decode cL_law 1230 = .ok (.iaload, 1) := by decide +kernel
theorem dL_law_1231 : decode cL_law 1231 = .ok (.aload_n 0, 1) := by decide +kernel
theorem dL_law_1232 : decode cL_law 1232 = .ok (.iload_n 3, 1) := by decide +kernel
theorem dL_law_1233 : decode cL_law 1233 = .ok (.iconst 2, 1) := by decide +kernel
theorem dL_law_1234 : decode cL_law 1234 = .ok (.iadd, 1) := by decide +kernel
theorem dL_law_1235 : decode cL_law 1235 = .ok (.iaload, 1) := by decide +kernel
theorem dL_law_1236 : decode cL_law 1236 = .ok (.invokevirtual 148, 3) := by decide +kernel
theorem dL_law_1239 : decode cL_law 1239 = .ok (.aload_n 2, 1) := by decide +kernel
theorem dL_law_1240 : decode cL_law 1240 = .ok (.aload_n 0, 1) := by decide +kernel
theorem dL_law_1241 : decode cL_law 1241 = .ok (.iload_n 3, 1) := by decide +kernel
theorem dL_law_1242 : decode cL_law 1242 = .ok (.iconst 1, 1) := by decide +kernel
theorem dL_law_1243 : decode cL_law 1243 = .ok (.iadd, 1) := by decide +kernel
theorem dL_law_1244 : decode cL_law 1244 = .ok (.iaload, 1) := by decide +kernel
theorem dL_law_1245 : decode cL_law 1245 = .ok (.aload_n 0, 1) := by decide +kernel
theorem dL_law_1246 : decode cL_law 1246 = .ok (.iload_n 3, 1) := by decide +kernel
theorem dL_law_1247 : decode cL_law 1247 = .ok (.iconst 2, 1) := by decide +kernel
theorem dL_law_1248 : decode cL_law 1248 = .ok (.iadd, 1) := by decide +kernel
theorem dL_law_1249 : decode cL_law 1249 = .ok (.iaload, 1) := by decide +kernel
theorem dL_law_1250 : decode cL_law 1250 = .ok (.invokevirtual 151, 3) := by decide +kernel
theorem dL_law_1253 : decode cL_law 1253 = .ok (.if_icmp .eq 166, 3) := by decide +kernel
theorem dL_law_1256 : decode cL_law 1256 = .ok (.iconst 0, 1) := by decide +kernel
theorem dL_law_1257 : decode cL_law 1257 = .ok (.ireturn, 1) := by decide +kernel
theorem dL_law_1258 : decode cL_law 1258 = .ok (.aload_n 1, 1) := by decide +kernel
theorem dL_law_1259 : decode cL_law 1259 = .ok (.aload_n 0, 1) := by decide +kernel
theorem dL_law_1260 : decode cL_law 1260 = .ok (.iload_n 3, 1) := by decide +kernel
theorem dL_law_1261 : decode cL_law 1261 = .ok (.iconst 1, 1) := by decide +kernel
theorem dL_law_1262 : decode cL_law 1262 = .ok (.iadd, 1) := by decide +kernel
theorem dL_law_1263 : decode cL_law 1263 = .ok (.iaload, 1) := by decide +kernel
theorem dL_law_1264 : decode cL_law 1264 = .ok (.aload_n 0, 1) := by decide +kernel
theorem dL_law_1265 : decode cL_law 1265 = .ok (.iload_n 3, 1) := by decide +kernel
theorem dL_law_1266 : decode cL_law 1266 = .ok (.iconst 2, 1) := by decide +kernel
theorem dL_law_1267 : decode cL_law 1267 = .ok (.iadd, 1) := by decide +kernel
theorem dL_law_1268 : decode cL_law 1268 = .ok (.iaload, 1) := by decide +kernel
theorem dL_law_1269 : decode cL_law 1269 = .ok (.invokevirtual 152, 3) := by decide +kernel
theorem dL_law_1272 : decode cL_law 1272 = .ok (.aload_n 2, 1) := by decide +kernel
theorem dL_law_1273 : decode cL_law 1273 = .ok (.aload_n 0, 1) := by decide +kernel
theorem dL_law_1274 : decode cL_law 1274 = .ok (.iload_n 3, 1) := by decide +kernel
theorem dL_law_1275 : decode cL_law 1275 = .ok (.iconst 1, 1) := by decide +kernel
theorem dL_law_1276 : decode cL_law 1276 = .ok (.iadd, 1) := by decide +kernel
theorem dL_law_1277 : decode cL_law 1277 = .ok (.iaload, 1) := by decide +kernel
theorem dL_law_1278 : decode cL_law 1278 = .ok (.aload_n 0, 1) := by decide +kernel
theorem dL_law_1279 : decode cL_law 1279 = .ok (.iload_n 3, 1) := by decide +kernel
theorem dL_law_1280 : decode cL_law 1280 = .ok (.iconst 2, 1) := by decide +kernel
theorem dL_law_1281 : decode cL_law 1281 = .ok (.iadd, 1) := by decide +kernel
theorem dL_law_1282 : decode cL_law 1282 = .ok (.iaload, 1) := by decide +kernel
theorem dL_law_1283 : decode cL_law 1283 = .ok (.invokevirtual 155, 3) := by decide +kernel
theorem dL_law_1286 : decode cL_law 1286 = .ok (.if_icmp .eq 133, 3) := by decide +kernel
theorem dL_law_1289 : decode cL_law 1289 = .ok (.iconst 0, 1) := by decide +kernel
theorem dL_law_1290 : decode cL_law 1290 = .ok (.ireturn, 1) := by decide +kernel
theorem dL_law_1291 : decode cL_law 1291 = .ok (.aload_n 1, 1) := by decide +kernel
theorem dL_law_1292 : decode cL_law 1292 = .ok (.aload_n 0, 1) := by decide +kernel
theorem dL_law_1293 : decode cL_law 1293 = .ok (.iload_n 3, 1) := by decide +kernel
theorem dL_law_1294 : decode cL_law 1294 = .ok (.iconst 1, 1) := by decide +kernel
theorem dL_law_1295 : decode cL_law 1295 = .ok (.iadd, 1) := by decide +kernel
theorem dL_law_1296 : decode cL_law 1296 = .ok (.iaload, 1) := by decide +kernel
theorem dL_law_1297 : decode cL_law 1297 = .ok (.aload_n 0, 1) := by decide +kernel
theorem dL_law_1298 : decode cL_law 1298 = .ok (.iload_n 3, 1) := by decide +kernel
theorem dL_law_1299 : decode cL_law 1299 = .ok (.iconst 2, 1) := by decide +kernel
theorem dL_law_1300 : decode cL_law 1300 = .ok (.iadd, 1) := by decide +kernel
theorem dL_law_1301 : decode cL_law 1301 = .ok (.iaload, 1) := by decide +kernel
theorem dL_law_1302 : decode cL_law 1302 = .ok (.invokevirtual 156, 3) := by decide +kernel
theorem dL_law_1305 : decode cL_law 1305 = .ok (.aload_n 2, 1) := by decide +kernel
theorem dL_law_1306 : decode cL_law 1306 = .ok (.aload_n 0, 1) := by decide +kernel
theorem dL_law_1307 : decode cL_law 1307 = .ok (.iload_n 3, 1) := by decide +kernel
theorem dL_law_1308 : decode cL_law 1308 = .ok (.iconst 1, 1) := by decide +kernel
theorem dL_law_1309 : decode cL_law 1309 = .ok (.iadd, 1) := by decide +kernel
theorem dL_law_1310 : decode cL_law 1310 = .ok (.iaload, 1) := by decide +kernel
theorem dL_law_1311 : decode cL_law 1311 = .ok (.aload_n 0, 1) := by decide +kernel
theorem dL_law_1312 : decode cL_law 1312 = .ok (.iload_n 3, 1) := by decide +kernel
theorem dL_law_1313 : decode cL_law 1313 = .ok (.iconst 2, 1) := by decide +kernel
theorem dL_law_1314 : decode cL_law 1314 = .ok (.iadd, 1) := by decide +kernel
theorem dL_law_1315 : decode cL_law 1315 = .ok (.iaload, 1) := by decide +kernel
theorem dL_law_1316 : decode cL_law 1316 = .ok (.invokevirtual 159, 3) := by decide +kernel
theorem dL_law_1319 : decode cL_law 1319 = .ok (.if_icmp .eq 100, 3) := by decide +kernel
theorem dL_law_1322 : decode cL_law 1322 = .ok (.iconst 0, 1) := by decide +kernel
theorem dL_law_1323 : decode cL_law 1323 = .ok (.ireturn, 1) := by decide +kernel
theorem dL_law_1324 : decode cL_law 1324 = .ok (.aload_n 1, 1) := by decide +kernel
theorem dL_law_1325 : decode cL_law 1325 = .ok (.aload_n 0, 1) := by decide +kernel
theorem dL_law_1326 : decode cL_law 1326 = .ok (.iload_n 3, 1) := by decide +kernel
theorem dL_law_1327 : decode cL_law 1327 = .ok (.iconst 1, 1) := by decide +kernel
theorem dL_law_1328 : decode cL_law 1328 = .ok (.iadd, 1) := by decide +kernel
theorem dL_law_1329 : decode cL_law 1329 = .ok (.iaload, 1) := by decide +kernel
theorem dL_law_1330 : decode cL_law 1330 = .ok (.invokevirtual 160, 3) := by decide +kernel
theorem dL_law_1333 : decode cL_law 1333 = .ok (.aload_n 2, 1) := by decide +kernel
theorem dL_law_1334 : decode cL_law 1334 = .ok (.aload_n 0, 1) := by decide +kernel
theorem dL_law_1335 : decode cL_law 1335 = .ok (.iload_n 3, 1) := by decide +kernel
theorem dL_law_1336 : decode cL_law 1336 = .ok (.iconst 1, 1) := by decide +kernel
theorem dL_law_1337 : decode cL_law 1337 = .ok (.iadd, 1) := by decide +kernel
theorem dL_law_1338 : decode cL_law 1338 = .ok (.iaload, 1) := by decide +kernel
theorem dL_law_1339 : decode cL_law 1339 = .ok (.invokevirtual 163, 3) := by decide +kernel
theorem dL_law_1342 : decode cL_law 1342 = .ok (.if_icmp .eq 77, 3) := by decide +kernel
theorem dL_law_1345 : decode cL_law 1345 = .ok (.iconst 0, 1) := by decide +kernel
theorem dL_law_1346 : decode cL_law 1346 = .ok (.ireturn, 1) := by decide +kernel
theorem dL_law_1347 : decode cL_law 1347 = .ok (.aload_n 1, 1) := by decide +kernel
theorem dL_law_1348 : decode cL_law 1348 = .ok (.aload_n 0, 1) := by decide +kernel
theorem dL_law_1349 : decode cL_law 1349 = .ok (.iload_n 3, 1) := by decide +kernel
theorem dL_law_1350 : decode cL_law 1350 = .ok (.iconst 1, 1) := by decide +kernel
theorem dL_law_1351 : decode cL_law 1351 = .ok (.iadd, 1) := by decide +kernel
theorem dL_law_1352 : decode cL_law 1352 = .ok (.iaload, 1) := by decide +kernel
theorem dL_law_1353 : decode cL_law 1353 = .ok (.invokevirtual 164, 3) := by decide +kernel
theorem dL_law_1356 : decode cL_law 1356 = .ok (.aload_n 2, 1) := by decide +kernel
theorem dL_law_1357 : decode cL_law 1357 = .ok (.aload_n 0, 1) := by decide +kernel
theorem dL_law_1358 : decode cL_law 1358 = .ok (.iload_n 3, 1) := by decide +kernel
theorem dL_law_1359 : decode cL_law 1359 = .ok (.iconst 1, 1) := by decide +kernel
theorem dL_law_1360 : decode cL_law 1360 = .ok (.iadd, 1) := by decide +kernel
theorem dL_law_1361 : decode cL_law 1361 = .ok (.iaload, 1) := by decide +kernel
theorem dL_law_1362 : decode cL_law 1362 = .ok (.invokevirtual 167, 3) := by decide +kernel
theorem dL_law_1365 : decode cL_law 1365 = .ok (.if_icmp .eq 54, 3) := by decide +kernel
theorem dL_law_1368 : decode cL_law 1368 = .ok (.iconst 0, 1) := by decide +kernel
theorem dL_law_1369 : decode cL_law 1369 = .ok (.ireturn, 1) := by decide +kernel
theorem dL_law_1370 : decode cL_law 1370 = .ok (.aload_n 1, 1) := by decide +kernel
theorem dL_law_1371 : decode cL_law 1371 = .ok (.invokevirtual 168, 3) := by decide +kernel
theorem dL_law_1374 : decode cL_law 1374 = .ok (.aload_n 2, 1) := by decide +kernel
theorem dL_law_1375 : decode cL_law 1375 = .ok (.invokevirtual 171, 3) := by decide +kernel
theorem dL_law_1378 : decode cL_law 1378 = .ok (.if_icmp .eq 41, 3) := by decide +kernel
theorem dL_law_1381 : decode cL_law 1381 = .ok (.iconst 0, 1) := by decide +kernel
theorem dL_law_1382 : decode cL_law 1382 = .ok (.ireturn, 1) := by decide +kernel
theorem dL_law_1383 : decode cL_law 1383 = .ok (.aload_n 1, 1) := by decide +kernel
theorem dL_law_1384 : decode cL_law 1384 = .ok (.invokevirtual 172, 3) := by decide +kernel
theorem dL_law_1387 : decode cL_law 1387 = .ok (.aload_n 2, 1) := by decide +kernel
theorem dL_law_1388 : decode cL_law 1388 = .ok (.invokevirtual 175, 3) := by decide +kernel
theorem dL_law_1391 : decode cL_law 1391 = .ok (.if_icmp .eq 28, 3) := by decide +kernel
theorem dL_law_1394 : decode cL_law 1394 = .ok (.iconst 0, 1) := by decide +kernel
theorem dL_law_1395 : decode cL_law 1395 = .ok (.ireturn, 1) := by decide +kernel
theorem dL_law_1396 : decode cL_law 1396 = .ok (.aload_n 1, 1) := by decide +kernel
theorem dL_law_1397 : decode cL_law 1397 = .ok (.aload_n 0, 1) := by decide +kernel
theorem dL_law_1398 : decode cL_law 1398 = .ok (.iload_n 3, 1) := by decide +kernel
theorem dL_law_1399 : decode cL_law 1399 = .ok (.iconst 1, 1) := by decide +kernel
theorem dL_law_1400 : decode cL_law 1400 = .ok (.iadd, 1) := by decide +kernel
theorem dL_law_1401 : decode cL_law 1401 = .ok (.iaload, 1) := by decide +kernel
theorem dL_law_1402 : decode cL_law 1402 = .ok (.invokevirtual 176, 3) := by decide +kernel
theorem dL_law_1405 : decode cL_law 1405 = .ok (.aload_n 2, 1) := by decide +kernel
theorem dL_law_1406 : decode cL_law 1406 = .ok (.aload_n 0, 1) := by decide +kernel
theorem dL_law_1407 : decode cL_law 1407 = .ok (.iload_n 3, 1) := by decide +kernel
theorem dL_law_1408 : decode cL_law 1408 = .ok (.iconst 1, 1) := by decide +kernel
theorem dL_law_1409 : decode cL_law 1409 = .ok (.iadd, 1) := by decide +kernel
theorem dL_law_1410 : decode cL_law 1410 = .ok (.iaload, 1) := by decide +kernel
theorem dL_law_1411 : decode cL_law 1411 = .ok (.invokevirtual 179, 3) := by decide +kernel
theorem dL_law_1414 : decode cL_law 1414 = .ok (.if_icmp .eq 5, 3) := by decide +kernel
theorem dL_law_1417 : decode cL_law 1417 = .ok (.iconst 0, 1) := by decide +kernel
theorem dL_law_1418 : decode cL_law 1418 = .ok (.ireturn, 1) := by decide +kernel
theorem dL_law_1419 : decode cL_law 1419 = .ok (.iinc 3 6, 3) := by decide +kernel
theorem dL_law_1422 : decode cL_law 1422 = .ok (.goto (-1404), 3) := by decide +kernel
theorem dL_law_1425 : decode cL_law 1425 = .ok (.iconst 1, 1) := by decide +kernel
theorem dL_law_1426 : decode cL_law 1426 = .ok (.ireturn, 1) := by decide +kernel
