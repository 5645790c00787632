theorem dX9_place_24 : decode cX9_place 24 = .ok (.iload 4, 2) := by decide +kernel
theorem dX9_place_26 : decode cX9_place 26 = .ok (.iconst 0, 1) := by decide +kernel
theorem dX9_place_27 : decode cX9_place 27 = .ok (.sipush 999, 3) := by decide +kernel
theorem dX9_place_30 : decode cX9_place 30 = .ok (.invokestatic 81, 3) := by decide +kernel
theorem dX9_place_33 : decode cX9_place 33 = .ok (.ifCond .ne 6, 3) := by decide +kernel
theorem dX9_place_36 : decode cX9_place 36 = .ok (.ldc 85, 2) := by decide +kernel
theorem dX9_place_38 : decode cX9_place 38 = .ok (.ireturn, 1) := by decide +kernel
theorem dX9_place_39 : decode cX9_place 39 = .ok (.aload_n 0, 1) := by decide +kernel
theorem dX9_place_40 : decode cX9_place 40 = .ok (.getfield 21, 3) := by decide +kernel
theorem dX9_place_43 : decode cX9_place 43 = .ok (.getfield 86, 3) := by decide +kernel
theorem dX9_place_46 : decode cX9_place 46 = .ok (.iload_n 1, 1) := by decide +kernel
theorem dX9_place_47 : decode cX9_place 47 = .ok (.iaload, 1) := by decide +kernel
theorem dX9_place_48 : decode cX9_place 48 = .ok (.istore 5, 2) := by decide +kernel
theorem dX9_place_50 : decode cX9_place 50 = .ok (.aload_n 0, 1) := by decide +kernel
theorem dX9_place_51 : decode cX9_place 51 = .ok (.getfield 21, 3) := by decide +kernel
theorem dX9_place_54 : decode cX9_place 54 = .ok (.getfield 86, 3) := by decide +kernel
theorem dX9_place_57 : decode cX9_place 57 = .ok (.iload_n 1, 1) := by decide +kernel
theorem dX9_place_58 : decode cX9_place 58 = .ok (.iload_n 2, 1) := by decide +kernel
theorem dX9_place_59 : decode cX9_place 59 = .ok (.iastore, 1) := by decide +kernel
theorem dX9_place_60 : decode cX9_place 60 = .ok (.aload_n 0, 1) := by decide +kernel
theorem dX9_place_61 : decode cX9_place 61 = .ok (.getfield 21, 3) := by decide +kernel
theorem dX9_place_64 : decode cX9_place 64 = .ok (.getfield 89, 3) := by decide +kernel
theorem dX9_place_67 : decode cX9_place 67 = .ok (.iload_n 1, 1) := by decide +kernel
theorem dX9_place_68 : decode cX9_place 68 = .ok (.iload_n 3, 1) := by decide +kernel
theorem dX9_place_69 : decode cX9_place 69 = .ok (.iastore, 1) := by decide +kernel
theorem dX9_place_70 : decode cX9_place 70 = .ok (.aload_n 0, 1) := by decide +kernel
theorem dX9_place_71 : decode cX9_place 71 = .ok (.getfield 21, 3) := by decide +kernel
theorem dX9_place_74 : decode cX9_place 74 = .ok (.getfield 92, 3) := by decide +kernel
theorem dX9_place_77 : decode cX9_place 77 = .ok (.iload_n 1, 1) := by decide +kernel
theorem dX9_place_78 : decode cX9_place 78 = .ok (.iload 4, 2) := by decide +kernel
theorem dX9_place_80 : decode cX9_place 80 = .ok (.iastore, 1) := by decide +kernel
theorem dX9_place_81 : decode cX9_place 81 = .ok (.iload 5, 2) := by decide +kernel
theorem dX9_place_83 : decode cX9_place 83 = .ok (.ireturn, 1) := by decide +kernel
theorem dX9_told_0 : decode cX9_told 0 = .ok (.iload_n 1, 1) := by decide +kernel
theorem dX9_told_1 : decode cX9_told 1 = .ok (.invokestatic 72, 3) := by decide +kernel
theorem dX9_told_4 : decode cX9_told 4 = .ok (.ifCond .ne 6, 3) := by decide +kernel
theorem dX9_told_7 : decode cX9_told 7 = .ok (.ldc 85, 2) := by decide +kernel
theorem dX9_told_9 : decode cX9_told 9 = .ok (.ireturn, 1) := by decide +kernel
theorem dX9_told_10 : decode cX9_told 10 = .ok (.iload_n 2, 1) := by decide +kernel
theorem dX9_told_11 : decode cX9_told 11 = .ok (.tableswitch 161 0 7 #[45, 55, 65, 75, 84, 93, 102, 130], 45) := by decide +kernel
theorem dX9_told_56 : decode cX9_told 56 = .ok (.aload_n 0, 1) := by decide +kernel
theorem dX9_told_57 : decode cX9_told 57 = .ok (.getfield 21, 3) := by decide +kernel
theorem dX9_told_60 : decode cX9_told 60 = .ok (.getfield 86, 3) := by decide +kernel
theorem dX9_told_63 : decode cX9_told 63 = .ok (.iload_n 1, 1) := by decide +kernel
theorem dX9_told_64 : decode cX9_told 64 = .ok (.iaload, 1) := by decide +kernel
theorem dX9_told_65 : decode cX9_told 65 = .ok (.ireturn, 1) := by decide +kernel
theorem dX9_told_66 : decode cX9_told 66 = .ok (.aload_n 0, 1) := by decide +kernel
theorem dX9_told_67 : decode cX9_told 67 = .ok (.getfield 21, 3) := by decide +kernel
theorem dX9_told_70 : decode cX9_told 70 = .ok (.getfield 89, 3) := by decide +kernel
theorem dX9_told_73 : decode cX9_told 73 = .ok (.iload_n 1, 1) := by decide +kernel
theorem dX9_told_74 : decode cX9_told 74 = .ok (.iaload, 1) := by decide +kernel
theorem dX9_told_75 : decode cX9_told 75 = .ok (.ireturn, 1) := by decide +kernel
theorem dX9_told_76 : decode cX9_told 76 = .ok (.aload_n 0, 1) := by decide +kernel
theorem dX9_told_77 : decode cX9_told 77 = .ok (.getfield 21, 3) := by decide +kernel
theorem dX9_told_80 : decode cX9_told 80 = .ok (.getfield 92, 3) := by decide +kernel
theorem dX9_told_83 : decode cX9_told 83 = .ok (.iload_n 1, 1) := by decide +kernel
theorem dX9_told_84 : decode cX9_told 84 = .ok (.iaload, 1) := by decide +kernel
theorem dX9_told_85 : decode cX9_told 85 = .ok (.ireturn, 1) := by decide +kernel
theorem dX9_told_86 : decode cX9_told 86 = .ok (.aload_n 0, 1) := by decide +kernel
theorem dX9_told_87 : decode cX9_told 87 = .ok (.getfield 21, 3) := by decide +kernel
theorem dX9_told_90 : decode cX9_told 90 = .ok (.iload_n 1, 1) := by decide +kernel
theorem dX9_told_91 : decode cX9_told 91 = .ok (.invokevirtual 95, 3) := by decide +kernel
theorem dX9_told_94 : decode cX9_told 94 = .ok (.ireturn, 1) := by decide +kernel
theorem dX9_told_95 : decode cX9_told 95 = .ok (.aload_n 0, 1) := by decide +kernel
theorem dX9_told_96 : decode cX9_told 96 = .ok (.getfield 21, 3) := by decide +kernel
theorem dX9_told_99 : decode cX9_told 99 = .ok (.iload_n 1, 1) := by decide +kernel
theorem dX9_told_100 : decode cX9_told 100 = .ok (.invokevirtual 99, 3) := by decide +kernel
theorem dX9_told_103 : decode cX9_told 103 = .ok (.ireturn, 1) := by decide +kernel
theorem dX9_told_104 : decode cX9_told 104 = .ok (.aload_n 0, 1) := by decide +kernel
theorem dX9_told_105 : decode cX9_told 105 = .ok (.getfield 21, 3) := by decide +kernel
theorem dX9_told_108 : decode cX9_told 108 = .ok (.iload_n 1, 1) := by decide +kernel
theorem dX9_told_109 : decode cX9_told 109 = .ok (.invokevirtual 102, 3) := by decide +kernel
theorem dX9_told_112 : decode cX9_told 112 = .ok (.ireturn, 1) := by decide +kernel
theorem dX9_told_113 : decode cX9_told 113 = .ok (.aload_n 0, 1) := by decide +kernel
theorem dX9_told_114 : decode cX9_told 114 = .ok (.getfield 21, 3) := by decide +kernel
theorem dX9_told_117 : decode cX9_told 117 = .ok (.getfield 86, 3) := by decide +kernel
theorem dX9_told_120 : decode cX9_told 120 = .ok (.iload_n 1, 1) := by decide +kernel
theorem dX9_told_121 : decode cX9_told 121 = .ok (.iaload, 1) := by decide +kernel
theorem dX9_told_122 : decode cX9_told 122 = .ok (.aload_n 0, 1) := by decide +kernel
theorem dX9_told_123 : decode cX9_told 123 = .ok (.getfield 21, 3) := by decide +kernel
theorem dX9_told_126 : decode cX9_told 126 = .ok (.iload_n 1, 1) := by decide +kernel
theorem dX9_told_127 : decode cX9_told 127 = .ok (.invokevirtual 105, 3) := by decide +kernel
theorem dX9_told_130 : decode cX9_told 130 = .ok (.aload_n 0, 1) := by decide +kernel
theorem dX9_told_131 : decode cX9_told 131 = .ok (.getfield 21, 3) := by decide +kernel
theorem dX9_told_134 : decode cX9_told 134 = .ok (.invokevirtual 108, 3) := by decide +kernel
theorem dX9_told_137 : decode cX9_told 137 = .ok (.invokestatic 112, 3) := by decide +kernel
theorem dX9_told_140 : decode cX9_told 140 = .ok (.ireturn, 1) := by decide +kernel
theorem dX9_told_141 : decode cX9_told 141 = .ok (.aload_n 0, 1) := by decide +kernel
theorem dX9_told_142 : decode cX9_told 142 = .ok (.getfield 21, 3) := by decide +kernel
theorem dX9_told_145 : decode cX9_told 145 = .ok (.getfield 86, 3) := by decide +kernel
theorem dX9_told_148 : decode cX9_told 148 = .ok (.iload_n 1, 1) := by decide +kernel
theorem dX9_told_149 : decode cX9_told 149 = .ok (.iaload, 1) := by decide +kernel
theorem dX9_told_150 : decode cX9_told 150 = .ok (.aload_n 0, 1) := by decide +kernel
theorem dX9_told_151 : decode cX9_told 151 = .ok (.getfield 21, 3) := by decide +kernel
theorem dX9_told_154 : decode cX9_told 154 = .ok (.getfield 89, 3) := by decide +kernel
theorem dX9_told_157 : decode cX9_told 157 = .ok (.iload_n 1, 1) := by decide +kernel
theorem dX9_told_158 : decode cX9_told 158 = .ok (.iaload, 1) := by decide +kernel
theorem dX9_told_159 : decode cX9_told 159 = .ok (.aload_n 0, 1) := by decide +kernel
theorem dX9_told_160 : decode cX9_told 160 = .ok (.getfield 21, 3) := by decide +kernel
theorem dX9_told_163 : decode cX9_told 163 = .ok (.getfield 92, 3) := by decide +kernel
theorem dX9_told_166 : decode cX9_told 166 = .ok (.iload_n 1, 1) := by decide +kernel
theorem dX9_told_167 : decode cX9_told 167 = .ok (.iaload, 1) := by decide +kernel
theorem dX9_told_168 : decode cX9_told 168 = .ok (.invokestatic 116, 3) := by decide +kernel
theorem dX9_told_171 : decode cX9_told 171 = .ok (.ireturn, 1) := by decide +kernel
theorem dX9_told_172 : decode cX9_told 172 = .ok (.ldc 85, 2) := by decide +kernel
theorem dX9_told_174 : decode cX9_told 174 = .ok (.ireturn, 1) := by decide +kernel
theorem dX9_as_0 : decode cX9_as 0 = .ok (.iload_n 1, 1) := by decide +kernel
theorem dX9_as_1 : decode cX9_as 1 = .ok (.invokestatic 72, 3) := by decide +kernel
theorem dX9_as_4 : decode cX9_as 4 = .ok (.ifCond .eq 10, 3) := by decide +kernel
theorem dX9_as_7 : decode cX9_as 7 = .ok (.iload_n 2, 1) := by decide +kernel
theorem dX9_as_8 : decode cX9_as 8 = .ok (.invokestatic 76, 3) := by decide +kernel
theorem dX9_as_11 : decode cX9_as 11 = .ok (.ifCond .ne 6, 3) := by decide +kernel
theorem dX9_as_14 : decode cX9_as 14 = .ok (.ldc 85, 2) := by decide +kernel
theorem dX9_as_16 : decode cX9_as 16 = .ok (.ireturn, 1) := by decide +kernel
theorem dX9_as_17 : decode cX9_as 17 = .ok (.aload_n 0, 1) := by decide +kernel
theorem dX9_as_18 : decode cX9_as 18 = .ok (.getfield 21, 3) := by decide +kernel
theorem dX9_as_21 : decode cX9_as 21 = .ok (.getfield 86, 3) := by decide +kernel
theorem dX9_as_24 : decode cX9_as 24 = .ok (.iload_n 1, 1) := by decide +kernel
theorem dX9_as_25 : decode cX9_as 25 = .ok (.iaload, 1) := by decide +kernel
theorem dX9_as_26 : decode cX9_as 26 = .ok (.iload_n 2, 1) := by decide +kernel
theorem dX9_as_27 : decode cX9_as 27 = .ok (.invokestatic 119, 3) := by decide +kernel
theorem dX9_as_30 : decode cX9_as 30 = .ok (.ifCond .eq 15, 3) := by decide +kernel
theorem dX9_as_33 : decode cX9_as 33 = .ok (.aload_n 0, 1) := by decide +kernel
theorem dX9_as_34 : decode cX9_as 34 = .ok (.getfield 21, 3) := by decide +kernel
theorem dX9_as_37 : decode cX9_as 37 = .ok (.getfield 89, 3) := by decide +kernel
theorem dX9_as_40 : decode cX9_as 40 = .ok (.iload_n 1, 1) := by decide +kernel
theorem dX9_as_41 : decode cX9_as 41 = .ok (.iaload, 1) := by decide +kernel
theorem dX9_as_42 : decode cX9_as 42 = .ok (.goto 5, 3) := by decide +kernel
theorem dX9_as_45 : decode cX9_as 45 = .ok (.ldc 123, 2) := by decide +kernel
theorem dX9_as_47 : decode cX9_as 47 = .ok (.ireturn, 1) := by decide +kernel
theorem dX9_turns_0 : decode cX9_turns 0 = .ok (.iload_n 1, 1) := by decide +kernel
theorem dX9_turns_1 : decode cX9_turns 1 = .ok (.invokestatic 72, 3) := by decide +kernel
theorem dX9_turns_4 : decode cX9_turns 4 = .ok (.ifCond .eq 10, 3) := by decide +kernel
theorem dX9_turns_7 : decode cX9_turns 7 = .ok (.iload_n 2, 1) := by decide +kernel
theorem dX9_turns_8 : decode cX9_turns 8 = .ok (.invokestatic 76, 3) := by decide +kernel
theorem dX9_turns_11 : decode cX9_turns 11 = .ok (.ifCond .ne 6, 3) := by decide +kernel
theorem dX9_turns_14 : decode cX9_turns 14 = .ok (.ldc 85, 2) := by decide +kernel
theorem dX9_turns_16 : decode cX9_turns 16 = .ok (.ireturn, 1) := by decide +kernel
theorem dX9_turns_17 : decode cX9_turns 17 = .ok (.aload_n 0, 1) := by decide +kernel
theorem dX9_turns_18 : decode cX9_turns 18 = .ok (.getfield 21, 3) := by decide +kernel
theorem dX9_turns_21 : decode cX9_turns 21 = .ok (.getfield 86, 3) := by decide +kernel
theorem dX9_turns_24 : decode cX9_turns 24 = .ok (.iload_n 1, 1) := by decide +kernel
theorem dX9_turns_25 : decode cX9_turns 25 = .ok (.iaload, 1) := by decide +kernel
theorem dX9_turns_26 : decode cX9_turns 26 = .ok (.istore_n 3, 1) := by decide +kernel
theorem dX9_turns_27 : decode cX9_turns 27 = .ok (.aload_n 0, 1) := by decide +kernel
theorem dX9_turns_28 : decode cX9_turns 28 = .ok (.getfield 21, 3) := by decide +kernel
theorem dX9_turns_31 : decode cX9_turns 31 = .ok (.getfield 86, 3) := by decide +kernel
theorem dX9_turns_34 : decode cX9_turns 34 = .ok (.iload_n 1, 1) := by decide +kernel
theorem dX9_turns_35 : decode cX9_turns 35 = .ok (.iload_n 2, 1) := by decide +kernel
theorem dX9_turns_36 : decode cX9_turns 36 = .ok (.iastore, 1) := by decide +kernel
theorem dX9_turns_37 : decode cX9_turns 37 = .ok (.iload_n 3, 1) := by decide +kernel
theorem dX9_turns_38 : decode cX9_turns 38 = .ok (.ireturn, 1) := by decide +kernel
theorem dX9_set_0 : decode cX9_set 0 = .ok (.iload_n 1, 1) := by decide +kernel
theorem dX9_set_1 : decode cX9_set 1 = .ok (.invokestatic 72, 3) := by decide +kernel
theorem dX9_set_4 : decode cX9_set 4 = .ok (.ifCond .ne 6, 3) := by decide +kernel
theorem dX9_set_7 : decode cX9_set 7 = .ok (.ldc 85, 2) := by decide +kernel
theorem dX9_set_9 : decode cX9_set 9 = .ok (.ireturn, 1) := by decide +kernel
theorem dX9_set_10 : decode cX9_set 10 = .ok (.ldc 85, 2) := by decide +kernel
theorem dX9_set_12 : decode cX9_set 12 = .ok (.istore 4, 2) := by decide +kernel
theorem dX9_set_14 : decode cX9_set 14 = .ok (.iload_n 2, 1) := by decide +kernel
theorem dX9_set_15 : decode cX9_set 15 = .ok (.ifCond .ne 37, 3) := by decide +kernel
theorem dX9_set_18 : decode cX9_set 18 = .ok (.iload_n 3, 1) := by decide +kernel
theorem dX9_set_19 : decode cX9_set 19 = .ok (.iconst 0, 1) := by decide +kernel
theorem dX9_set_20 : decode cX9_set 20 = .ok (.bipush 60, 2) := by decide +kernel
theorem dX9_set_22 : decode cX9_set 22 = .ok (.invokestatic 81, 3) := by decide +kernel
theorem dX9_set_25 : decode cX9_set 25 = .ok (.ifCond .eq 27, 3) := by decide +kernel
theorem dX9_set_28 : decode cX9_set 28 = .ok (.aload_n 0, 1) := by decide +kernel
theorem dX9_set_29 : decode cX9_set 29 = .ok (.getfield 21, 3) := by decide +kernel
theorem dX9_set_32 : decode cX9_set 32 = .ok (.getfield 89, 3) := by decide +kernel
theorem dX9_set_35 : decode cX9_set 35 = .ok (.iload_n 1, 1) := by decide +kernel
theorem dX9_set_36 : decode cX9_set 36 = .ok (.iaload, 1) := by decide +kernel
theorem dX9_set_37 : decode cX9_set 37 = .ok (.istore 4, 2) := by decide +kernel
theorem dX9_set_39 : decode cX9_set 39 = .ok (.aload_n 0, 1) := by decide +kernel
theorem dX9_set_40 : decode cX9_set 40 = .ok (.getfield 21, 3) := by decide +kernel
theorem dX9_set_43 : decode cX9_set 43 = .ok (.getfield 89, 3) := by decide +kernel
theorem dX9_set_46 : decode cX9_set 46 = .ok (.iload_n 1, 1) := by decide +kernel
theorem dX9_set_47 : decode cX9_set 47 = .ok (.iload_n 3, 1) := by decide +kernel
theorem dX9_set_48 : decode cX9_set 48 = .ok (.iastore, 1) := by decide +kernel
theorem dX9_set_49 : decode cX9_set 49 = .ok (.goto 40, 3) := by decide +kernel
theorem dX9_set_52 : decode cX9_set 52 = .ok (.iload_n 2, 1) := by decide +kernel
theorem dX9_set_53 : decode cX9_set 53 = .ok (.iconst 1, 1) := by decide +kernel
theorem dX9_set_54 : decode cX9_set 54 = .ok (.if_icmp .ne 35, 3) := by decide +kernel
theorem dX9_set_57 : decode cX9_set 57 = .ok (.iload_n 3, 1) := by decide +kernel
theorem dX9_set_58 : decode cX9_set 58 = .ok (.iconst 0, 1) := by decide +kernel
theorem dX9_set_59 : decode cX9_set 59 = .ok (.sipush 999, 3) := by decide +kernel
theorem dX9_set_62 : decode cX9_set 62 = .ok (.invokestatic 81, 3) := by decide +kernel
theorem dX9_set_65 : decode cX9_set 65 = .ok (.ifCond .eq 24, 3) := by decide +kernel
theorem dX9_set_68 : decode cX9_set 68 = .ok (.aload_n 0, 1) := by decide +kernel
theorem dX9_set_69 : decode cX9_set 69 = .ok (.getfield 21, 3) := by decide +kernel
theorem dX9_set_72 : decode cX9_set 72 = .ok (.getfield 92, 3) := by decide +kernel
theorem dX9_set_75 : decode cX9_set 75 = .ok (.iload_n 1, 1) := by decide +kernel
theorem dX9_set_76 : decode cX9_set 76 = .ok (.iaload, 1) := by decide +kernel
theorem dX9_set_77 : decode cX9_set 77 = .ok (.istore 4, 2) := by decide +kernel
theorem dX9_set_79 : decode cX9_set 79 = .ok (.aload_n 0, 1) := by decide +kernel
theorem dX9_set_80 : decode cX9_set 80 = .ok (.getfield 21, 3) := by decide +kernel
theorem dX9_set_83 : decode cX9_set 83 = .ok (.getfield 92, 3) := by decide +kernel
theorem dX9_set_86 : decode cX9_set 86 = .ok (.iload_n 1, 1) := by decide +kernel
theorem dX9_set_87 : decode cX9_set 87 = .ok (.iload_n 3, 1) := by decide +kernel
theorem dX9_set_88 : decode cX9_set 88 = .ok (.iastore, 1) := by decide +kernel
theorem dX9_set_89 : decode cX9_set 89 = .ok (.iload 4, 2) := by decide +kernel
theorem dX9_set_91 : decode cX9_set 91 = .ok (.ireturn, 1) := by decide +kernel
theorem dX9_today_0 : decode cX9_today 0 = .ok (.ldc 85, 2) := by decide +kernel
theorem dX9_today_2 : decode cX9_today 2 = .ok (.istore_n 3, 1) := by decide +kernel
theorem dX9_today_3 : decode cX9_today 3 = .ok (.iload_n 1, 1) := by decide +kernel
theorem dX9_today_4 : decode cX9_today 4 = .ok (.ifCond .ne 31, 3) := by decide +kernel
theorem dX9_today_7 : decode cX9_today 7 = .ok (.iload_n 2, 1) := by decide +kernel
theorem dX9_today_8 : decode cX9_today 8 = .ok (.iconst 0, 1) := by decide +kernel
theorem dX9_today_9 : decode cX9_today 9 = .ok (.iconst 5, 1) := by decide +kernel
theorem dX9_today_10 : decode cX9_today 10 = .ok (.invokestatic 81, 3) := by decide +kernel
theorem dX9_today_13 : decode cX9_today 13 = .ok (.ifCond .eq 22, 3) := by decide +kernel
theorem dX9_today_16 : decode cX9_today 16 = .ok (.aload_n 0, 1) := by decide +kernel
theorem dX9_today_17 : decode cX9_today 17 = .ok (.getfield 21, 3) := by decide +kernel
theorem dX9_today_20 : decode cX9_today 20 = .ok (.getfield 124, 3) := by decide +kernel
theorem dX9_today_23 : decode cX9_today 23 = .ok (.istore_n 3, 1) := by decide +kernel
theorem dX9_today_24 : decode cX9_today 24 = .ok (.aload_n 0, 1) := by decide +kernel
theorem dX9_today_25 : decode cX9_today 25 = .ok (.getfield 21, 3) := by decide +kernel
theorem dX9_today_28 : decode cX9_today 28 = .ok (.iload_n 2, 1) := by decide +kernel
theorem dX9_today_29 : decode cX9_today 29 = .ok (.putfield 124, 3) := by decide +kernel
theorem dX9_today_32 : decode cX9_today 32 = .ok (.goto 68, 3) := by decide +kernel
theorem dX9_today_35 : decode cX9_today 35 = .ok (.iload_n 1, 1) := by decide +kernel
theorem dX9_today_36 : decode cX9_today 36 = .ok (.iconst 1, 1) := by decide +kernel
theorem dX9_today_37 : decode cX9_today 37 = .ok (.if_icmp .ne 32, 3) := by decide +kernel
theorem dX9_today_40 : decode cX9_today 40 = .ok (.iload_n 2, 1) := by decide +kernel
theorem dX9_today_41 : decode cX9_today 41 = .ok (.iconst 0, 1) := by decide +kernel
theorem dX9_today_42 : decode cX9_today 42 = .ok (.bipush 23, 2) := by decide +kernel
theorem dX9_today_44 : decode cX9_today 44 = .ok (.invokestatic 81, 3) := by decide +kernel
theorem dX9_today_47 : decode cX9_today 47 = .ok (.ifCond .eq 22, 3) := by decide +kernel
theorem dX9_today_50 : decode cX9_today 50 = .ok (.aload_n 0, 1) := by decide +kernel
theorem dX9_today_51 : decode cX9_today 51 = .ok (.getfield 21, 3) := by decide +kernel
theorem dX9_today_54 : decode cX9_today 54 = .ok (.getfield 128, 3) := by decide +kernel
theorem dX9_today_57 : decode cX9_today 57 = .ok (.istore_n 3, 1) := by decide +kernel
theorem dX9_today_58 : decode cX9_today 58 = .ok (.aload_n 0, 1) := by decide +kernel
theorem dX9_today_59 : decode cX9_today 59 = .ok (.getfield 21, 3) := by decide +kernel
theorem dX9_today_62 : decode cX9_today 62 = .ok (.iload_n 2, 1) := by decide +kernel
theorem dX9_today_63 : decode cX9_today 63 = .ok (.putfield 128, 3) := by decide +kernel
theorem dX9_today_66 : decode cX9_today 66 = .ok (.goto 34, 3) := by decide +kernel
theorem dX9_today_69 : decode cX9_today 69 = .ok (.iload_n 1, 1) := by decide +kernel
theorem dX9_today_70 : decode cX9_today 70 = .ok (.iconst 2, 1) := by decide +kernel
theorem dX9_today_71 : decode cX9_today 71 = .ok (.if_icmp .ne 29, 3) := by decide +kernel
theorem dX9_today_74 : decode cX9_today 74 = .ok (.iload_n 2, 1) := by decide +kernel
theorem dX9_today_75 : decode cX9_today 75 = .ok (.iconst 0, 1) := by decide +kernel
theorem dX9_today_76 : decode cX9_today 76 = .ok (.bipush 9, 2) := by decide +kernel
theorem dX9_today_78 : decode cX9_today 78 = .ok (.invokestatic 81, 3) := by decide +kernel
theorem dX9_today_81 : decode cX9_today 81 = .ok (.ifCond .eq 19, 3) := by decide +kernel
theorem dX9_today_84 : decode cX9_today 84 = .ok (.aload_n 0, 1) := by decide +kernel
theorem dX9_today_85 : decode cX9_today 85 = .ok (.getfield 21, 3) := by decide +kernel
theorem dX9_today_88 : decode cX9_today 88 = .ok (.getfield 131, 3) := by decide +kernel
theorem dX9_today_91 : decode cX9_today 91 = .ok (.istore_n 3, 1) := by decide +kernel
theorem dX9_today_92 : decode cX9_today 92 = .ok (.aload_n 0, 1) := by decide +kernel
theorem dX9_today_93 : decode cX9_today 93 = .ok (.getfield 21, 3) := by decide +kernel
theorem dX9_today_96 : decode cX9_today 96 = .ok (.iload_n 2, 1) := by decide +kernel
theorem dX9_today_97 : decode cX9_today 97 = .ok (.putfield 131, 3) := by decide +kernel
theorem dX9_today_100 : decode cX9_today 100 = .ok (.iload_n 3, 1) := by decide +kernel
theorem dX9_today_101 : decode cX9_today 101 = .ok (.ireturn, 1) := by decide +kernel
theorem dX9_deal_0 : decode cX9_deal 0 = .ok (.aload_n 0, 1) := by decide +kernel
theorem dX9_deal_1 : decode cX9_deal 1 = .ok (.getfield 21, 3) := by decide +kernel
theorem dX9_deal_4 : decode cX9_deal 4 = .ok (.invokevirtual 134, 3) := by decide +kernel
theorem dX9_deal_7 : decode cX9_deal 7 = .ok (.aload_n 0, 1) := by decide +kernel
theorem dX9_deal_8 : decode cX9_deal 8 = .ok (.getfield 21, 3) := by decide +kernel
theorem dX9_deal_11 : decode cX9_deal 11 = .ok (.invokevirtual 137, 3) := by decide +kernel
theorem dX9_deal_14 : decode cX9_deal 14 = .ok (.ireturn, 1) := by decide +kernel
theorem dX9_seed_0 : decode cX9_seed 0 = .ok (.aload_n 0, 1) := by decide +kernel
theorem dX9_seed_1 : decode cX9_seed 1 = .ok (.getfield 21, 3) := by decide +kernel
theorem dX9_seed_4 : decode cX9_seed 4 = .ok (.getfield 140, 3) := by decide +kernel
theorem dX9_seed_7 : decode cX9_seed 7 = .ok (.istore_n 2, 1) := by decide +kernel
theorem dX9_seed_8 : decode cX9_seed 8 = .ok (.aload_n 0, 1) := by decide +kernel
theorem dX9_seed_9 : decode cX9_seed 9 = .ok (.getfield 21, 3) := by decide +kernel
theorem dX9_seed_12 : decode cX9_seed 12 = .ok (.iload_n 1, 1) := by decide +kernel
theorem dX9_seed_13 : decode cX9_seed 13 = .ok (.putfield 140, 3) := by decide +kernel
theorem dX9_seed_16 : decode cX9_seed 16 = .ok (.iload_n 2, 1) := by decide +kernel
theorem dX9_seed_17 : decode cX9_seed 17 = .ok (.ireturn, 1) := by decide +kernel
theorem dX9_run_0 : decode cX9_run 0 = .ok (.iload_n 1, 1) := by decide +kernel
theorem dX9_run_1 : decode cX9_run 1 = .ok (.iconst 1, 1) := by decide +kernel
theorem dX9_run_2 : decode cX9_run 2 = .ok (.bipush 48, 2) := by decide +kernel
theorem dX9_run_4 : decode cX9_run 4 = .ok (.invokestatic 81, 3) := by decide +kernel
theorem dX9_run_7 : decode cX9_run 7 = .ok (.ifCond .ne 6, 3) := by decide +kernel
theorem dX9_run_10 : decode cX9_run 10 = .ok (.ldc 85, 2) := by decide +kernel
theorem dX9_run_12 : decode cX9_run 12 = .ok (.ireturn, 1) := by decide +kernel
theorem dX9_run_13 : decode cX9_run 13 = .ok (.aload_n 0, 1) := by decide +kernel
theorem dX9_run_14 : decode cX9_run 14 = .ok (.getfield 21, 3) := by decide +kernel
theorem dX9_run_17 : decode cX9_run 17 = .ok (.iload_n 1, 1) := by decide +kernel
theorem dX9_run_18 : decode cX9_run 18 = .ok (.invokevirtual 143, 3) := by decide +kernel
theorem dX9_run_21 : decode cX9_run 21 = .ok (.ireturn, 1) := by decide +kernel
theorem dX9_ahead_0 : decode cX9_ahead 0 = .ok (.iload_n 1, 1) := by decide +kernel
theorem dX9_ahead_1 : decode cX9_ahead 1 = .ok (.iconst 0, 1) := by decide +kernel
theorem dX9_ahead_2 : decode cX9_ahead 2 = .ok (.bipush 48, 2) := by decide +kernel
theorem dX9_ahead_4 : decode cX9_ahead 4 = .ok (.invokestatic 81, 3) := by decide +kernel
theorem dX9_ahead_7 : decode cX9_ahead 7 = .ok (.ifCond .eq 12, 3) := by decide +kernel
theorem dX9_ahead_10 : decode cX9_ahead 10 = .ok (.iload_n 2, 1) := by decide +kernel
theorem dX9_ahead_11 : decode cX9_ahead 11 = .ok (.iconst 0, 1) := by decide +kernel
theorem dX9_ahead_12 : decode cX9_ahead 12 = .ok (.iconst 3, 1) := by decide +kernel
theorem dX9_ahead_13 : decode cX9_ahead 13 = .ok (.invokestatic 81, 3) := by decide +kernel
theorem dX9_ahead_16 : decode cX9_ahead 16 = .ok (.ifCond .ne 6, 3) := by decide +kernel
theorem dX9_ahead_19 : decode cX9_ahead 19 = .ok (.ldc 85, 2) := by decide +kernel
theorem dX9_ahead_21 : decode cX9_ahead 21 = .ok (.ireturn, 1) := by decide +kernel
theorem dX9_ahead_22 : decode cX9_ahead 22 = .ok (.aload_n 0, 1) := by decide +kernel
theorem dX9_ahead_23 : decode cX9_ahead 23 = .ok (.getfield 28, 3) := by decide +kernel
theorem dX9_ahead_26 : decode cX9_ahead 26 = .ok (.aload_n 0, 1) := by decide +kernel
theorem dX9_ahead_27 : decode cX9_ahead 27 = .ok (.getfield 21, 3) := by decide +kernel
theorem dX9_ahead_30 : decode cX9_ahead 30 = .ok (.invokevirtual 146, 3) := by decide +kernel
theorem dX9_ahead_33 : decode cX9_ahead 33 = .ok (.aload_n 0, 1) := by decide +kernel
theorem dX9_ahead_34 : decode cX9_ahead 34 = .ok (.getfield 28, 3) := by decide +kernel
theorem dX9_ahead_37 : decode cX9_ahead 37 = .ok (.iload_n 1, 1) := by decide +kernel
theorem dX9_ahead_38 : decode cX9_ahead 38 = .ok (.invokevirtual 143, 3) := by decide +kernel
theorem dX9_ahead_41 : decode cX9_ahead 41 = .ok (.istore_n 3, 1) := by decide +kernel
theorem dX9_ahead_42 : decode cX9_ahead 42 = .ok (.iload_n 2, 1) := by decide +kernel
theorem dX9_ahead_43 : decode cX9_ahead 43 = .ok (.tableswitch 51 0 2 #[25, 33, 35], 25) := by decide +kernel
theorem dX9_ahead_68 : decode cX9_ahead 68 = .ok (.aload_n 0, 1) := by decide +kernel
theorem dX9_ahead_69 : decode cX9_ahead 69 = .ok (.getfield 28, 3) := by decide +kernel
theorem dX9_ahead_72 : decode cX9_ahead 72 = .ok (.invokevirtual 137, 3) := by decide +kernel
theorem dX9_ahead_75 : decode cX9_ahead 75 = .ok (.ireturn, 1) := by decide +kernel
theorem dX9_ahead_76 : decode cX9_ahead 76 = .ok (.iload_n 3, 1) := by decide +kernel
theorem dX9_ahead_77 : decode cX9_ahead 77 = .ok (.ireturn, 1) := by decide +kernel
theorem dX9_ahead_78 : decode cX9_ahead 78 = .ok (.aload_n 0, 1) := by decide +kernel
theorem dX9_ahead_79 : decode cX9_ahead 79 = .ok (.getfield 28, 3) := by decide +kernel
theorem dX9_ahead_82 : decode cX9_ahead 82 = .ok (.getfield 92, 3) := by decide +kernel
theorem dX9_ahead_85 : decode cX9_ahead 85 = .ok (.aload_n 0, 1) := by decide +kernel
theorem dX9_ahead_86 : decode cX9_ahead 86 = .ok (.getfield 28, 3) := by decide +kernel
theorem dX9_ahead_89 : decode cX9_ahead 89 = .ok (.invokevirtual 150, 3) := by decide +kernel
theorem dX9_ahead_92 : decode cX9_ahead 92 = .ok (.iaload, 1) := by decide +kernel
theorem dX9_ahead_93 : decode cX9_ahead 93 = .ok (.ireturn, 1) := by decide +kernel
theorem dX9_ahead_94 : decode cX9_ahead 94 = .ok (.aload_n 0, 1) := by decide +kernel
theorem dX9_ahead_95 : decode cX9_ahead 95 = .ok (.getfield 28, 3) := by decide +kernel
theorem dX9_ahead_98 : decode cX9_ahead 98 = .ok (.invokevirtual 150, 3) := by decide +kernel
theorem dX9_ahead_101 : decode cX9_ahead 101 = .ok (.ireturn, 1) := by decide +kernel
theorem dX9_calm_0 : decode cX9_calm 0 = .ok (.aload_n 0, 1) := by decide +kernel
theorem dX9_calm_1 : decode cX9_calm 1 = .ok (.getfield 28, 3) := by decide +kernel
theorem dX9_calm_4 : decode cX9_calm 4 = .ok (.aload_n 0, 1) := by decide +kernel
theorem dX9_calm_5 : decode cX9_calm 5 = .ok (.getfield 21, 3) := by decide +kernel
theorem dX9_calm_8 : decode cX9_calm 8 = .ok (.invokevirtual 146, 3) := by decide +kernel
theorem dX9_calm_11 : decode cX9_calm 11 = .ok (.aload_n 0, 1) := by decide +kernel
theorem dX9_calm_12 : decode cX9_calm 12 = .ok (.getfield 28, 3) := by decide +kernel
theorem dX9_calm_15 : decode cX9_calm 15 = .ok (.invokevirtual 153, 3) := by decide +kernel
theorem dX9_calm_18 : decode cX9_calm 18 = .ok (.iconst 1, 1) := by decide +kernel
theorem dX9_calm_19 : decode cX9_calm 19 = .ok (.istore_n 1, 1) := by decide +kernel
theorem dX9_calm_20 : decode cX9_calm 20 = .ok (.iload_n 1, 1) := by decide +kernel
theorem dX9_calm_21 : decode cX9_calm 21 = .ok (.bipush 48, 2) := by decide +kernel
theorem dX9_calm_23 : decode cX9_calm 23 = .ok (.if_icmp .gt 21, 3) := by decide +kernel
theorem dX9_calm_26 : decode cX9_calm 26 = .ok (.aload_n 0, 1) := by decide +kernel
theorem dX9_calm_27 : decode cX9_calm 27 = .ok (.getfield 28, 3) := by decide +kernel
theorem dX9_calm_30 : decode cX9_calm 30 = .ok (.invokevirtual 156, 3) := by decide +kernel
theorem dX9_calm_33 : decode cX9_calm 33 = .ok (.ifCond .le 5, 3) := by decide +kernel
theorem dX9_calm_36 : decode cX9_calm 36 = .ok (.iload_n 1, 1) := by decide +kernel
theorem dX9_calm_37 : decode cX9_calm 37 = .ok (.ireturn, 1) := by decide +kernel
theorem dX9_calm_38 : decode cX9_calm 38 = .ok (.iinc 1 1, 3) := by decide +kernel
theorem dX9_calm_41 : decode cX9_calm 41 = .ok (.goto (-21), 3) := by decide +kernel
theorem dX9_calm_44 : decode cX9_calm 44 = .ok (.ldc 159, 2) := by decide +kernel
theorem dX9_calm_46 : decode cX9_calm 46 = .ok (.ireturn, 1) := by decide +kernel
theorem dX9_track_0 : decode cX9_track 0 = .ok (.iload_n 1, 1) := by decide +kernel
theorem dX9_track_1 : decode cX9_track 1 = .ok (.invokestatic 72, 3) := by decide +kernel
theorem dX9_track_4 : decode cX9_track 4 = .ok (.ifCond .ne 6, 3) := by decide +kernel
theorem dX9_track_7 : decode cX9_track 7 = .ok (.ldc 85, 2) := by decide +kernel
theorem dX9_track_9 : decode cX9_track 9 = .ok (.ireturn, 1) := by decide +kernel
theorem dX9_track_10 : decode cX9_track 10 = .ok (.aload_n 0, 1) := by decide +kernel
theorem dX9_track_11 : decode cX9_track 11 = .ok (.getfield 21, 3) := by decide +kernel
theorem dX9_track_14 : decode cX9_track 14 = .ok (.getfield 160, 3) := by decide +kernel
theorem dX9_track_17 : decode cX9_track 17 = .ok (.istore_n 2, 1) := by decide +kernel
theorem dX9_track_18 : decode cX9_track 18 = .ok (.iload_n 2, 1) := by decide +kernel
theorem dX9_track_19 : decode cX9_track 19 = .ok (.ifCond .le 24, 3) := by decide +kernel
theorem dX9_track_22 : decode cX9_track 22 = .ok (.aload_n 0, 1) := by decide +kernel
theorem dX9_track_23 : decode cX9_track 23 = .ok (.getfield 21, 3) := by decide +kernel
theorem dX9_track_26 : decode cX9_track 26 = .ok (.getfield 163, 3) := by decide +kernel
theorem dX9_track_29 : decode cX9_track 29 = .ok (.iload_n 2, 1) := by decide +kernel
theorem dX9_track_30 : decode cX9_track 30 = .ok (.iconst 1, 1) := by decide +kernel
theorem dX9_track_31 : decode cX9_track 31 = .ok (.isub, 1) := by decide +kernel
theorem dX9_track_32 : decode cX9_track 32 = .ok (.iaload, 1) := by decide +kernel
theorem dX9_track_33 : decode cX9_track 33 = .ok (.iload_n 1, 1) := by decide +kernel
theorem dX9_track_34 : decode cX9_track 34 = .ok (.invokestatic 166, 3) := by decide +kernel
theorem dX9_track_37 : decode cX9_track 37 = .ok (.ifCond .ne 6, 3) := by decide +kernel
theorem dX9_track_40 : decode cX9_track 40 = .ok (.ldc 169, 2) := by decide +kernel
theorem dX9_track_42 : decode cX9_track 42 = .ok (.ireturn, 1) := by decide +kernel
theorem dX9_track_43 : decode cX9_track 43 = .ok (.iload_n 2, 1) := by decide +kernel
theorem dX9_track_44 : decode cX9_track 44 = .ok (.bipush 24, 2) := by decide +kernel
theorem dX9_track_46 : decode cX9_track 46 = .ok (.if_icmp .lt 6, 3) := by decide +kernel
theorem dX9_track_49 : decode cX9_track 49 = .ok (.ldc 170, 2) := by decide +kernel
theorem dX9_track_51 : decode cX9_track 51 = .ok (.ireturn, 1) := by decide +kernel
theorem dX9_track_52 : decode cX9_track 52 = .ok (.aload_n 0, 1) := by decide +kernel
theorem dX9_track_53 : decode cX9_track 53 = .ok (.getfield 21, 3) := by decide +kernel
theorem dX9_track_56 : decode cX9_track 56 = .ok (.getfield 163, 3) := by decide +kernel
theorem dX9_track_59 : decode cX9_track 59 = .ok (.iload_n 2, 1) := by decide +kernel
theorem dX9_track_60 : decode cX9_track 60 = .ok (.iload_n 1, 1) := by decide +kernel
theorem dX9_track_61 : decode cX9_track 61 = .ok (.iastore, 1) := by decide +kernel
theorem dX9_track_62 : decode cX9_track 62 = .ok (.aload_n 0, 1) := by decide +kernel
theorem dX9_track_63 : decode cX9_track 63 = .ok (.getfield 21, 3) := by decide +kernel
theorem dX9_track_66 : decode cX9_track 66 = .ok (.iload_n 2, 1) := by decide +kernel
theorem dX9_track_67 : decode cX9_track 67 = .ok (.iconst 1, 1) := by decide +kernel
theorem dX9_track_68 : decode cX9_track 68 = .ok (.iadd, 1) := by decide +kernel
theorem dX9_track_69 : decode cX9_track 69 = .ok (.putfield 160, 3) := by decide +kernel
theorem dX9_track_72 : decode cX9_track 72 = .ok (.aload_n 0, 1) := by decide +kernel
theorem dX9_track_73 : decode cX9_track 73 = .ok (.getfield 21, 3) := by decide +kernel
theorem dX9_track_76 : decode cX9_track 76 = .ok (.getfield 160, 3) := by decide +kernel
theorem dX9_track_79 : decode cX9_track 79 = .ok (.ireturn, 1) := by decide +kernel
theorem dX9_wipe_0 : decode cX9_wipe 0 = .ok (.aload_n 0, 1) := by decide +kernel
theorem dX9_wipe_1 : decode cX9_wipe 1 = .ok (.getfield 21, 3) := by decide +kernel
theorem dX9_wipe_4 : decode cX9_wipe 4 = .ok (.getfield 160, 3) := by decide +kernel
theorem dX9_wipe_7 : decode cX9_wipe 7 = .ok (.istore_n 1, 1) := by decide +kernel
theorem dX9_wipe_8 : decode cX9_wipe 8 = .ok (.aload_n 0, 1) := by decide +kernel
theorem dX9_wipe_9 : decode cX9_wipe 9 = .ok (.getfield 21, 3) := by decide +kernel
theorem dX9_wipe_12 : decode cX9_wipe 12 = .ok (.iconst 0, 1) := by decide +kernel
theorem dX9_wipe_13 : decode cX9_wipe 13 = .ok (.putfield 160, 3) := by decide +kernel
theorem dX9_wipe_16 : decode cX9_wipe 16 = .ok (.iload_n 1, 1) := by decide +kernel
theorem dX9_wipe_17 : decode cX9_wipe 17 = .ok (.ireturn, 1) := by decide +kernel
theorem dX9_at_0 : decode cX9_at 0 = .ok (.iload_n 1, 1) := by decide +kernel
theorem dX9_at_1 : decode cX9_at 1 = .ok (.ifCond .ge 6, 3) := by decide +kernel
theorem dX9_at_4 : decode cX9_at 4 = .ok (.ldc 85, 2) := by decide +kernel
theorem dX9_at_6 : decode cX9_at 6 = .ok (.ireturn, 1) := by decide +kernel
theorem dX9_at_7 : decode cX9_at 7 = .ok (.iload_n 1, 1) := by decide +kernel
theorem dX9_at_8 : decode cX9_at 8 = .ok (.aload_n 0, 1) := by decide +kernel
theorem dX9_at_9 : decode cX9_at 9 = .ok (.getfield 21, 3) := by decide +kernel
theorem dX9_at_12 : decode cX9_at 12 = .ok (.getfield 160, 3) := by decide +kernel
theorem dX9_at_15 : decode cX9_at 15 = .ok (.if_icmp .ge 15, 3) := by decide +kernel
theorem dX9_at_18 : decode cX9_at 18 = .ok (.aload_n 0, 1) := by decide +kernel
theorem dX9_at_19 : decode cX9_at 19 = .ok (.getfield 21, 3) := by decide +kernel
theorem dX9_at_22 : decode cX9_at 22 = .ok (.getfield 163, 3) := by decide +kernel
theorem dX9_at_25 : decode cX9_at 25 = .ok (.iload_n 1, 1) := by decide +kernel
theorem dX9_at_26 : decode cX9_at 26 = .ok (.iaload, 1) := by decide +kernel
theorem dX9_at_27 : decode cX9_at 27 = .ok (.goto 5, 3) := by decide +kernel
theorem dX9_at_30 : decode cX9_at 30 = .ok (.ldc 159, 2) := by decide +kernel
theorem dX9_at_32 : decode cX9_at 32 = .ok (.ireturn, 1) := by decide +kernel
theorem dX9_along_0 : decode cX9_along 0 = .ok (.iload_n 1, 1) := by decide +kernel
theorem dX9_along_1 : decode cX9_along 1 = .ok (.iconst 0, 1) := by decide +kernel
theorem dX9_along_2 : decode cX9_along 2 = .ok (.iconst 4, 1) := by decide +kernel
theorem dX9_along_3 : decode cX9_along 3 = .ok (.invokestatic 81, 3) := by decide +kernel
theorem dX9_along_6 : decode cX9_along 6 = .ok (.ifCond .ne 6, 3) := by decide +kernel
theorem dX9_along_9 : decode cX9_along 9 = .ok (.ldc 85, 2) := by decide +kernel
theorem dX9_along_11 : decode cX9_along 11 = .ok (.ireturn, 1) := by decide +kernel
theorem dX9_along_12 : decode cX9_along 12 = .ok (.aload_n 0, 1) := by decide +kernel
theorem dX9_along_13 : decode cX9_along 13 = .ok (.getfield 21, 3) := by decide +kernel
theorem dX9_along_16 : decode cX9_along 16 = .ok (.getfield 160, 3) := by decide +kernel
theorem dX9_along_19 : decode cX9_along 19 = .ok (.ifCond .ne 6, 3) := by decide +kernel
theorem dX9_along_22 : decode cX9_along 22 = .ok (.ldc 159, 2) := by decide +kernel
theorem dX9_along_24 : decode cX9_along 24 = .ok (.ireturn, 1) := by decide +kernel
theorem dX9_along_25 : decode cX9_along 25 = .ok (.iload_n 1, 1) := by decide +kernel
theorem dX9_along_26 : decode cX9_along 26 = .ok (.tableswitch 62 0 3 #[30, 38, 46, 54], 30) := by decide +kernel
theorem dX9_along_56 : decode cX9_along 56 = .ok (.aload_n 0, 1) := by decide +kernel
theorem dX9_along_57 : decode cX9_along 57 = .ok (.getfield 21, 3) := by decide +kernel
theorem dX9_along_60 : decode cX9_along 60 = .ok (.invokevirtual 171, 3) := by decide +kernel
theorem dX9_along_63 : decode cX9_along 63 = .ok (.ireturn, 1) := by decide +kernel
theorem dX9_along_64 : decode cX9_along 64 = .ok (.aload_n 0, 1) := by decide +kernel
theorem dX9_along_65 : decode cX9_along 65 = .ok (.getfield 21, 3) := by decide +kernel
theorem dX9_along_68 : decode cX9_along 68 = .ok (.invokevirtual 174, 3) := by decide +kernel
theorem dX9_along_71 : decode cX9_along 71 = .ok (.ireturn, 1) := by decide +kernel
theorem dX9_along_72 : decode cX9_along 72 = .ok (.aload_n 0, 1) := by decide +kernel
theorem dX9_along_73 : decode cX9_along 73 = .ok (.getfield 21, 3) := by decide +kernel
theorem dX9_along_76 : decode cX9_along 76 = .ok (.invokevirtual 177, 3) := by decide +kernel
theorem dX9_along_79 : decode cX9_along 79 = .ok (.ireturn, 1) := by decide +kernel
theorem dX9_along_80 : decode cX9_along 80 = .ok (.aload_n 0, 1) := by decide +kernel
theorem dX9_along_81 : decode cX9_along 81 = .ok (.getfield 21, 3) := by decide +kernel
theorem dX9_along_84 : decode cX9_along 84 = .ok (.invokevirtual 180, 3) := by decide +kernel
theorem dX9_along_87 : decode cX9_along 87 = .ok (.ireturn, 1) := by decide +kernel
theorem dX9_along_88 : decode cX9_along 88 = .ok (.aload_n 0, 1) := by decide +kernel
theorem dX9_along_89 : decode cX9_along 89 = .ok (.getfield 21, 3) := by decide +kernel
theorem dX9_along_92 : decode cX9_along 92 = .ok (.invokevirtual 183, 3) := by decide +kernel
theorem dX9_along_95 : decode cX9_along 95 = .ok (.ireturn, 1) := by decide +kernel
theorem dX9_turnBack_0 : decode cX9_turnBack 0 = .ok (.iload_n 1, 1) := by decide +kernel
theorem dX9_turnBack_1 : decode cX9_turnBack 1 = .ok (.iconst 0, 1) := by decide +kernel
theorem dX9_turnBack_2 : decode cX9_turnBack 2 = .ok (.ldc 186, 2) := by decide +kernel
theorem dX9_turnBack_4 : decode cX9_turnBack 4 = .ok (.invokestatic 81, 3) := by decide +kernel
theorem dX9_turnBack_7 : decode cX9_turnBack 7 = .ok (.ifCond .ne 6, 3) := by decide +kernel
theorem dX9_turnBack_10 : decode cX9_turnBack 10 = .ok (.ldc 85, 2) := by decide +kernel
theorem dX9_turnBack_12 : decode cX9_turnBack 12 = .ok (.ireturn, 1) := by decide +kernel
theorem dX9_turnBack_13 : decode cX9_turnBack 13 = .ok (.aload_n 0, 1) := by decide +kernel
theorem dX9_turnBack_14 : decode cX9_turnBack 14 = .ok (.getfield 21, 3) := by decide +kernel
theorem dX9_turnBack_17 : decode cX9_turnBack 17 = .ok (.invokevirtual 187, 3) := by decide +kernel
theorem dX9_turnBack_20 : decode cX9_turnBack 20 = .ok (.iconst 0, 1) := by decide +kernel
theorem dX9_turnBack_21 : decode cX9_turnBack 21 = .ok (.istore_n 2, 1) := by decide +kernel
theorem dX9_turnBack_22 : decode cX9_turnBack 22 = .ok (.iload_n 2, 1) := by decide +kernel
theorem dX9_turnBack_23 : decode cX9_turnBack 23 = .ok (.aload_n 0, 1) := by decide +kernel
theorem dX9_turnBack_24 : decode cX9_turnBack 24 = .ok (.getfield 21, 3) := by decide +kernel
theorem dX9_turnBack_27 : decode cX9_turnBack 27 = .ok (.getfield 160, 3) := by decide +kernel
theorem dX9_turnBack_30 : decode cX9_turnBack 30 = .ok (.if_icmp .ge 32, 3) := by decide +kernel
theorem dX9_turnBack_33 : decode cX9_turnBack 33 = .ok (.aload_n 0, 1) := by decide +kernel
theorem dX9_turnBack_34 : decode cX9_turnBack 34 = .ok (.getfield 21, 3) := by decide +kernel
theorem dX9_turnBack_37 : decode cX9_turnBack 37 = .ok (.getfield 190, 3) := by decide +kernel
theorem dX9_turnBack_40 : decode cX9_turnBack 40 = .ok (.aload_n 0, 1) := by decide +kernel
theorem dX9_turnBack_41 : decode cX9_turnBack 41 = .ok (.getfield 21, 3) := by decide +kernel
theorem dX9_turnBack_44 : decode cX9_turnBack 44 = .ok (.getfield 163, 3) := by decide +kernel
theorem dX9_turnBack_47 : decode cX9_turnBack 47 = .ok (.iload_n 2, 1) := by decide +kernel
theorem dX9_turnBack_48 : decode cX9_turnBack 48 = .ok (.iaload, 1) := by decide +kernel
theorem dX9_turnBack_49 : decode cX9_turnBack 49 = .ok (.iaload, 1) := by decide +kernel
theorem dX9_turnBack_50 : decode cX9_turnBack 50 = .ok (.iload_n 1, 1) := by decide +kernel
theorem dX9_turnBack_51 : decode cX9_turnBack 51 = .ok (.if_icmp .le 5, 3) := by decide +kernel
theorem dX9_turnBack_54 : decode cX9_turnBack 54 = .ok (.iload_n 2, 1) := by decide +kernel
theorem dX9_turnBack_55 : decode cX9_turnBack 55 = .ok (.ireturn, 1) := by decide +kernel
theorem dX9_turnBack_56 : decode cX9_turnBack 56 = .ok (.iinc 2 1, 3) := by decide +kernel
theorem dX9_turnBack_59 : decode cX9_turnBack 59 = .ok (.goto (-37), 3) := by decide +kernel
theorem dX9_turnBack_62 : decode cX9_turnBack 62 = .ok (.ldc 159, 2) := by decide +kernel
theorem dX9_turnBack_64 : decode cX9_turnBack 64 = .ok (.ireturn, 1) := by decide +kernel
theorem dX9_way_0 : decode cX9_way 0 = .ok (.iload_n 1, 1) := by decide +kernel
theorem dX9_way_1 : decode cX9_way 1 = .ok (.invokestatic 72, 3) := by decide +kernel
theorem dX9_way_4 : decode cX9_way 4 = .ok (.ifCond .eq 24, 3) := by decide +kernel
theorem dX9_way_7 : decode cX9_way 7 = .ok (.iload_n 2, 1) := by decide +kernel
theorem dX9_way_8 : decode cX9_way 8 = .ok (.invokestatic 72, 3) := by decide +kernel
theorem dX9_way_11 : decode cX9_way 11 = .ok (.ifCond .eq 17, 3) := by decide +kernel
theorem dX9_way_14 : decode cX9_way 14 = .ok (.iload_n 3, 1) := by decide +kernel
theorem dX9_way_15 : decode cX9_way 15 = .ok (.ifCond .lt 13, 3) := by decide +kernel
theorem dX9_way_18 : decode cX9_way 18 = .ok (.iload_n 3, 1) := by decide +kernel
theorem dX9_way_19 : decode cX9_way 19 = .ok (.iconst 3, 1) := by decide +kernel
theorem dX9_way_20 : decode cX9_way 20 = .ok (.bipush 9, 2) := by decide +kernel
theorem dX9_way_22 : decode cX9_way 22 = .ok (.invokestatic 81, 3) := by decide +kernel
theorem dX9_way_25 : decode cX9_way 25 = .ok (.ifCond .eq 6, 3) := by decide +kernel
theorem dX9_way_28 : decode cX9_way 28 = .ok (.ldc 85, 2) := by decide +kernel
theorem dX9_way_30 : decode cX9_way 30 = .ok (.ireturn, 1) := by decide +kernel
theorem dX9_way_31 : decode cX9_way 31 = .ok (.aload_n 0, 1) := by decide +kernel
theorem dX9_way_32 : decode cX9_way 32 = .ok (.getfield 34, 3) := by decide +kernel
theorem dX9_way_35 : decode cX9_way 35 = .ok (.aload_n 0, 1) := by decide +kernel
theorem dX9_way_36 : decode cX9_way 36 = .ok (.getfield 21, 3) := by decide +kernel
theorem dX9_way_39 : decode cX9_way 39 = .ok (.iload_n 2, 1) := by decide +kernel
theorem dX9_way_40 : decode cX9_way 40 = .ok (.invokevirtual 193, 3) := by decide +kernel
theorem dX9_way_43 : decode cX9_way 43 = .ok (.iload_n 3, 1) := by decide +kernel
theorem dX9_way_44 : decode cX9_way 44 = .ok (.tableswitch 59 0 2 #[28, 37, 46], 28) := by decide +kernel
theorem dX9_way_72 : decode cX9_way 72 = .ok (.aload_n 0, 1) := by decide +kernel
theorem dX9_way_73 : decode cX9_way 73 = .ok (.getfield 34, 3) := by decide +kernel
theorem dX9_way_76 : decode cX9_way 76 = .ok (.iload_n 1, 1) := by decide +kernel
theorem dX9_way_77 : decode cX9_way 77 = .ok (.invokevirtual 197, 3) := by decide +kernel
theorem dX9_way_80 : decode cX9_way 80 = .ok (.ireturn, 1) := by decide +kernel
theorem dX9_way_81 : decode cX9_way 81 = .ok (.aload_n 0, 1) := by decide +kernel
theorem dX9_way_82 : decode cX9_way 82 = .ok (.getfield 34, 3) := by decide +kernel
theorem dX9_way_85 : decode cX9_way 85 = .ok (.iload_n 1, 1) := by decide +kernel
theorem dX9_way_86 : decode cX9_way 86 = .ok (.invokevirtual 200, 3) := by decide +kernel
theorem dX9_way_89 : decode cX9_way 89 = .ok (.ireturn, 1) := by decide +kernel
theorem dX9_way_90 : decode cX9_way 90 = .ok (.aload_n 0, 1) := by decide +kernel
theorem dX9_way_91 : decode cX9_way 91 = .ok (.getfield 34, 3) := by decide +kernel
theorem dX9_way_94 : decode cX9_way 94 = .ok (.aload_n 0, 1) := by decide +kernel
theorem dX9_way_95 : decode cX9_way 95 = .ok (.getfield 21, 3) := by decide +kernel
theorem dX9_way_98 : decode cX9_way 98 = .ok (.iload_n 1, 1) := by decide +kernel
theorem dX9_way_99 : decode cX9_way 99 = .ok (.invokevirtual 203, 3) := by decide +kernel
theorem dX9_way_102 : decode cX9_way 102 = .ok (.ireturn, 1) := by decide +kernel
theorem dX9_way_103 : decode cX9_way 103 = .ok (.aload_n 0, 1) := by decide +kernel
theorem dX9_way_104 : decode cX9_way 104 = .ok (.getfield 34, 3) := by decide +kernel
theorem dX9_way_107 : decode cX9_way 107 = .ok (.aload_n 0, 1) := by decide +kernel
theorem dX9_way_108 : decode cX9_way 108 = .ok (.getfield 21, 3) := by decide +kernel
theorem dX9_way_111 : decode cX9_way 111 = .ok (.iload_n 1, 1) := by decide +kernel
theorem dX9_way_112 : decode cX9_way 112 = .ok (.iload_n 3, 1) := by decide +kernel
theorem dX9_way_113 : decode cX9_way 113 = .ok (.bipush 10, 2) := by decide +kernel
theorem dX9_way_115 : decode cX9_way 115 = .ok (.isub, 1) := by decide +kernel
theorem dX9_way_116 : decode cX9_way 116 = .ok (.invokevirtual 207, 3) := by decide +kernel
theorem dX9_way_119 : decode cX9_way 119 = .ok (.ireturn, 1) := by decide +kernel
theorem dX9_bound_0 : decode cX9_bound 0 = .ok (.iload_n 1, 1) := by decide +kernel
theorem dX9_bound_1 : decode cX9_bound 1 = .ok (.invokestatic 72, 3) := by decide +kernel
theorem dX9_bound_4 : decode cX9_bound 4 = .ok (.ifCond .eq 20, 3) := by decide +kernel
theorem dX9_bound_7 : decode cX9_bound 7 = .ok (.iload_n 2, 1) := by decide +kernel
theorem dX9_bound_8 : decode cX9_bound 8 = .ok (.invokestatic 72, 3) := by decide +kernel
theorem dX9_bound_11 : decode cX9_bound 11 = .ok (.ifCond .eq 13, 3) := by decide +kernel
theorem dX9_bound_14 : decode cX9_bound 14 = .ok (.iload_n 3, 1) := by decide +kernel
theorem dX9_bound_15 : decode cX9_bound 15 = .ok (.iconst 0, 1) := by decide +kernel
theorem dX9_bound_16 : decode cX9_bound 16 = .ok (.bipush 40, 2) := by decide +kernel
theorem dX9_bound_18 : decode cX9_bound 18 = .ok (.invokestatic 81, 3) := by decide +kernel
theorem dX9_bound_21 : decode cX9_bound 21 = .ok (.ifCond .ne 6, 3) := by decide +kernel
theorem dX9_bound_24 : decode cX9_bound 24 = .ok (.ldc 85, 2) := by decide +kernel
theorem dX9_bound_26 : decode cX9_bound 26 = .ok (.ireturn, 1) := by decide +kernel
theorem dX9_bound_27 : decode cX9_bound 27 = .ok (.aload_n 0, 1) := by decide +kernel
theorem dX9_bound_28 : decode cX9_bound 28 = .ok (.getfield 34, 3) := by decide +kernel
theorem dX9_bound_31 : decode cX9_bound 31 = .ok (.aload_n 0, 1) := by decide +kernel
theorem dX9_bound_32 : decode cX9_bound 32 = .ok (.getfield 21, 3) := by decide +kernel
theorem dX9_bound_35 : decode cX9_bound 35 = .ok (.iload_n 1, 1) := by decide +kernel
theorem dX9_bound_36 : decode cX9_bound 36 = .ok (.iload_n 2, 1) := by decide +kernel
theorem dX9_bound_37 : decode cX9_bound 37 = .ok (.iload_n 3, 1) := by decide +kernel
theorem dX9_bound_38 : decode cX9_bound 38 = .ok (.invokevirtual 211, 3) := by decide +kernel
theorem dX9_bound_41 : decode cX9_bound 41 = .ok (.ireturn, 1) := by decide +kernel
theorem dX9_wall_0 : decode cX9_wall 0 = .ok (.iload_n 1, 1) := by decide +kernel
theorem dX9_wall_1 : decode cX9_wall 1 = .ok (.invokestatic 72, 3) := by decide +kernel
theorem dX9_wall_4 : decode cX9_wall 4 = .ok (.ifCond .eq 10, 3) := by decide +kernel
theorem dX9_wall_7 : decode cX9_wall 7 = .ok (.iload_n 2, 1) := by decide +kernel
theorem dX9_wall_8 : decode cX9_wall 8 = .ok (.invokestatic 72, 3) := by decide +kernel
theorem dX9_wall_11 : decode cX9_wall 11 = .ok (.ifCond .ne 6, 3) := by decide +kernel
theorem dX9_wall_14 : decode cX9_wall 14 = .ok (.ldc 85, 2) := by decide +kernel
theorem dX9_wall_16 : decode cX9_wall 16 = .ok (.ireturn, 1) := by decide +kernel
theorem dX9_wall_17 : decode cX9_wall 17 = .ok (.aload_n 0, 1) := by decide +kernel
theorem dX9_wall_18 : decode cX9_wall 18 = .ok (.getfield 34, 3) := by decide +kernel
theorem dX9_wall_21 : decode cX9_wall 21 = .ok (.aload_n 0, 1) := by decide +kernel
theorem dX9_wall_22 : decode cX9_wall 22 = .ok (.getfield 21, 3) := by decide +kernel
theorem dX9_wall_25 : decode cX9_wall 25 = .ok (.iload_n 1, 1) := by decide +kernel
theorem dX9_wall_26 : decode cX9_wall 26 = .ok (.iload_n 2, 1) := by decide +kernel
theorem dX9_wall_27 : decode cX9_wall 27 = .ok (.invokevirtual 215, 3) := by decide +kernel
theorem dX9_wall_30 : decode cX9_wall 30 = .ok (.ireturn, 1) := by decide +kernel
theorem dX9_reach_0 : decode cX9_reach 0 = .ok (.iload_n 1, 1) := by decide +kernel
theorem dX9_reach_1 : decode cX9_reach 1 = .ok (.invokestatic 72, 3) := by decide +kernel
theorem dX9_reach_4 : decode cX9_reach 4 = .ok (.ifCond .eq 13, 3) := by decide +kernel
theorem dX9_reach_7 : decode cX9_reach 7 = .ok (.iload_n 2, 1) := by decide +kernel
theorem dX9_reach_8 : decode cX9_reach 8 = .ok (.iconst 0, 1) := by decide +kernel
theorem dX9_reach_9 : decode cX9_reach 9 = .ok (.ldc 186, 2) := by decide +kernel
theorem dX9_reach_11 : decode cX9_reach 11 = .ok (.invokestatic 81, 3) := by decide +kernel
theorem dX9_reach_14 : decode cX9_reach 14 = .ok (.ifCond .ne 6, 3) := by decide +kernel
theorem dX9_reach_17 : decode cX9_reach 17 = .ok (.ldc 85, 2) := by decide +kernel
theorem dX9_reach_19 : decode cX9_reach 19 = .ok (.ireturn, 1) := by decide +kernel
theorem dX9_reach_20 : decode cX9_reach 20 = .ok (.aload_n 0, 1) := by decide +kernel
theorem dX9_reach_21 : decode cX9_reach 21 = .ok (.getfield 34, 3) := by decide +kernel
theorem dX9_reach_24 : decode cX9_reach 24 = .ok (.aload_n 0, 1) := by decide +kernel
theorem dX9_reach_25 : decode cX9_reach 25 = .ok (.getfield 21, 3) := by decide +kernel
theorem dX9_reach_28 : decode cX9_reach 28 = .ok (.iload_n 1, 1) := by decide +kernel
theorem dX9_reach_29 : decode cX9_reach 29 = .ok (.iload_n 2, 1) := by decide +kernel
theorem dX9_reach_30 : decode cX9_reach 30 = .ok (.invokevirtual 218, 3) := by decide +kernel
theorem dX9_reach_33 : decode cX9_reach 33 = .ok (.ireturn, 1) := by decide +kernel
theorem dX9_odds_0 : decode cX9_odds 0 = .ok (.iload_n 1, 1) := by decide +kernel
theorem dX9_odds_1 : decode cX9_odds 1 = .ok (.iconst 0, 1) := by decide +kernel
theorem dX9_odds_2 : decode cX9_odds 2 = .ok (.bipush 100, 2) := by decide +kernel
theorem dX9_odds_4 : decode cX9_odds 4 = .ok (.invokestatic 81, 3) := by decide +kernel
theorem dX9_odds_7 : decode cX9_odds 7 = .ok (.ifCond .eq 22, 3) := by decide +kernel
theorem dX9_odds_10 : decode cX9_odds 10 = .ok (.iload_n 2, 1) := by decide +kernel
theorem dX9_odds_11 : decode cX9_odds 11 = .ok (.iconst 0, 1) := by decide +kernel
theorem dX9_odds_12 : decode cX9_odds 12 = .ok (.bipush 12, 2) := by decide +kernel
theorem dX9_odds_14 : decode cX9_odds 14 = .ok (.invokestatic 81, 3) := by decide +kernel
theorem dX9_odds_17 : decode cX9_odds 17 = .ok (.ifCond .eq 12, 3) := by decide +kernel
theorem dX9_odds_20 : decode cX9_odds 20 = .ok (.iload_n 3, 1) := by decide +kernel
theorem dX9_odds_21 : decode cX9_odds 21 = .ok (.iconst 0, 1) := by decide +kernel
theorem dX9_odds_22 : decode cX9_odds 22 = .ok (.iconst 1, 1) := by decide +kernel
theorem dX9_odds_23 : decode cX9_odds 23 = .ok (.invokestatic 81, 3) := by decide +kernel
theorem dX9_odds_26 : decode cX9_odds 26 = .ok (.ifCond .ne 7, 3) := by decide +kernel
theorem dX9_odds_29 : decode cX9_odds 29 = .ok (.ldc2_w 221, 3) := by decide +kernel
theorem dX9_odds_32 : decode cX9_odds 32 = .ok (.lreturn, 1) := by decide +kernel
theorem dX9_odds_33 : decode cX9_odds 33 = .ok (.iload_n 1, 1) := by decide +kernel
theorem dX9_odds_34 : decode cX9_odds 34 = .ok (.istore 4, 2) := by decide +kernel
theorem dX9_odds_36 : decode cX9_odds 36 = .ok (.iconst 0, 1) := by decide +kernel
theorem dX9_odds_37 : decode cX9_odds 37 = .ok (.istore 5, 2) := by decide +kernel
theorem dX9_odds_39 : decode cX9_odds 39 = .ok (.iload 5, 2) := by decide +kernel
theorem dX9_odds_41 : decode cX9_odds 41 = .ok (.iload_n 2, 1) := by decide +kernel
theorem dX9_odds_42 : decode cX9_odds 42 = .ok (.if_icmp .ge 15, 3) := by decide +kernel
theorem dX9_odds_45 : decode cX9_odds 45 = .ok (.iload 4, 2) := by decide +kernel
theorem dX9_odds_47 : decode cX9_odds 47 = .ok (.iconst 3, 1) := by decide +kernel
theorem dX9_odds_48 : decode cX9_odds 48 = .ok (.imul, 1) := by decide +kernel
theorem dX9_odds_49 : decode cX9_odds 49 = .ok (.istore 4, 2) := by decide +kernel
theorem dX9_odds_51 : decode cX9_odds 51 = .ok (.iinc 5 1, 3) := by decide +kernel
theorem dX9_odds_54 : decode cX9_odds 54 = .ok (.goto (-15), 3) := by decide +kernel
theorem dX9_odds_57 : decode cX9_odds 57 = .ok (.iload 4, 2) := by decide +kernel
theorem dX9_odds_59 : decode cX9_odds 59 = .ok (.bipush 100, 2) := by decide +kernel
theorem dX9_odds_61 : decode cX9_odds 61 = .ok (.iadd, 1) := by decide +kernel
theorem dX9_odds_62 : decode cX9_odds 62 = .ok (.iload_n 1, 1) := by decide +kernel
theorem dX9_odds_63 : decode cX9_odds 63 = .ok (.isub, 1) := by decide +kernel
theorem dX9_odds_64 : decode cX9_odds 64 = .ok (.istore 5, 2) := by decide +kernel
theorem dX9_odds_66 : decode cX9_odds 66 = .ok (.iload 4, 2) := by decide +kernel
theorem dX9_odds_68 : decode cX9_odds 68 = .ok (.iload 5, 2) := by decide +kernel
theorem dX9_odds_70 : decode cX9_odds 70 = .ok (.invokestatic 223, 3) := by decide +kernel
theorem dX9_odds_73 : decode cX9_odds 73 = .ok (.istore 6, 2) := by decide +kernel
theorem dX9_odds_75 : decode cX9_odds 75 = .ok (.iload 6, 2) := by decide +kernel
theorem dX9_odds_77 : decode cX9_odds 77 = .ok (.iconst 1, 1) := by decide +kernel
theorem dX9_odds_78 : decode cX9_odds 78 = .ok (.if_icmp .ge 7, 3) := by decide +kernel
theorem dX9_odds_81 : decode cX9_odds 81 = .ok (.ldc2_w 221, 3) := by decide +kernel
theorem dX9_odds_84 : decode cX9_odds 84 = .ok (.lreturn, 1) := by decide +kernel
theorem dX9_odds_85 : decode cX9_odds 85 = .ok (.iload_n 3, 1) := by decide +kernel
theorem dX9_odds_86 : decode cX9_odds 86 = .ok (.ifCond .ne 12, 3) := by decide +kernel
theorem dX9_odds_89 : decode cX9_odds 89 = .ok (.iload 4, 2) := by decide +kernel
theorem dX9_odds_91 : decode cX9_odds 91 = .ok (.iload 6, 2) := by decide +kernel
theorem dX9_odds_93 : decode cX9_odds 93 = .ok (.idiv, 1) := by decide +kernel
theorem dX9_odds_94 : decode cX9_odds 94 = .ok (.i2l, 1) := by decide +kernel
theorem dX9_odds_95 : decode cX9_odds 95 = .ok (.goto 9, 3) := by decide +kernel
theorem dX9_odds_98 : decode cX9_odds 98 = .ok (.iload 5, 2) := by decide +kernel
theorem dX9_odds_100 : decode cX9_odds 100 = .ok (.iload 6, 2) := by decide +kernel
theorem dX9_odds_102 : decode cX9_odds 102 = .ok (.idiv, 1) := by decide +kernel
theorem dX9_odds_103 : decode cX9_odds 103 = .ok (.i2l, 1) := by decide +kernel
theorem dX9_odds_104 : decode cX9_odds 104 = .ok (.lreturn, 1) := by decide +kernel
theorem dX9_feed_0 : decode cX9_feed 0 = .ok (.aload_n 0, 1) := by decide +kernel
theorem dX9_feed_1 : decode cX9_feed 1 = .ok (.getfield 41, 3) := by decide +kernel
theorem dX9_feed_4 : decode cX9_feed 4 = .ok (.bipush 12, 2) := by decide +kernel
theorem dX9_feed_6 : decode cX9_feed 6 = .ok (.invokevirtual 227, 3) := by decide +kernel
theorem dX9_feed_9 : decode cX9_feed 9 = .ok (.ifCond .ne 6, 3) := by decide +kernel
theorem dX9_feed_12 : decode cX9_feed 12 = .ok (.ldc 170, 2) := by decide +kernel
theorem dX9_feed_14 : decode cX9_feed 14 = .ok (.ireturn, 1) := by decide +kernel
theorem dX9_feed_15 : decode cX9_feed 15 = .ok (.aload_n 0, 1) := by decide +kernel
theorem dX9_feed_16 : decode cX9_feed 16 = .ok (.getfield 41, 3) := by decide +kernel
theorem dX9_feed_19 : decode cX9_feed 19 = .ok (.iload_n 1, 1) := by decide +kernel
theorem dX9_feed_20 : decode cX9_feed 20 = .ok (.invokevirtual 230, 3) := by decide +kernel
theorem dX9_feed_23 : decode cX9_feed 23 = .ok (.aload_n 0, 1) := by decide +kernel
theorem dX9_feed_24 : decode cX9_feed 24 = .ok (.getfield 41, 3) := by decide +kernel
theorem dX9_feed_27 : decode cX9_feed 27 = .ok (.iload_n 2, 1) := by decide +kernel
theorem dX9_feed_28 : decode cX9_feed 28 = .ok (.invokevirtual 230, 3) := by decide +kernel
theorem dX9_feed_31 : decode cX9_feed 31 = .ok (.aload_n 0, 1) := by decide +kernel
theorem dX9_feed_32 : decode cX9_feed 32 = .ok (.getfield 41, 3) := by decide +kernel
theorem dX9_feed_35 : decode cX9_feed 35 = .ok (.iload_n 3, 1) := by decide +kernel
theorem dX9_feed_36 : decode cX9_feed 36 = .ok (.invokevirtual 230, 3) := by decide +kernel
theorem dX9_feed_39 : decode cX9_feed 39 = .ok (.aload_n 0, 1) := by decide +kernel
theorem dX9_feed_40 : decode cX9_feed 40 = .ok (.getfield 41, 3) := by decide +kernel
theorem dX9_feed_43 : decode cX9_feed 43 = .ok (.getfield 234, 3) := by decide +kernel
theorem dX9_feed_46 : decode cX9_feed 46 = .ok (.ireturn, 1) := by decide +kernel
theorem dX9_trim_0 : decode cX9_trim 0 = .ok (.iload_n 1, 1) := by decide +kernel
theorem dX9_trim_1 : decode cX9_trim 1 = .ok (.iconst 0, 1) := by decide +kernel
theorem dX9_trim_2 : decode cX9_trim 2 = .ok (.aload_n 0, 1) := by decide +kernel
theorem dX9_trim_3 : decode cX9_trim 3 = .ok (.getfield 41, 3) := by decide +kernel
theorem dX9_trim_6 : decode cX9_trim 6 = .ok (.getfield 234, 3) := by decide +kernel
theorem dX9_trim_9 : decode cX9_trim 9 = .ok (.invokestatic 81, 3) := by decide +kernel
theorem dX9_trim_12 : decode cX9_trim 12 = .ok (.ifCond .ne 6, 3) := by decide +kernel
theorem dX9_trim_15 : decode cX9_trim 15 = .ok (.ldc 85, 2) := by decide +kernel
theorem dX9_trim_17 : decode cX9_trim 17 = .ok (.ireturn, 1) := by decide +kernel
theorem dX9_trim_18 : decode cX9_trim 18 = .ok (.aload_n 0, 1) := by decide +kernel
theorem dX9_trim_19 : decode cX9_trim 19 = .ok (.getfield 41, 3) := by decide +kernel
theorem dX9_trim_22 : decode cX9_trim 22 = .ok (.iload_n 1, 1) := by decide +kernel
theorem dX9_trim_23 : decode cX9_trim 23 = .ok (.putfield 234, 3) := by decide +kernel
theorem dX9_trim_26 : decode cX9_trim 26 = .ok (.iload_n 1, 1) := by decide +kernel
theorem dX9_trim_27 : decode cX9_trim 27 = .ok (.ireturn, 1) := by decide +kernel
theorem dX9_text_0 : decode cX9_text 0 = .ok (.aload_n 0, 1) := by decide +kernel
theorem dX9_text_1 : decode cX9_text 1 = .ok (.getfield 50, 3) := by decide +kernel
theorem dX9_text_4 : decode cX9_text 4 = .ok (.invokevirtual 237, 3) := by decide +kernel
theorem dX9_text_7 : decode cX9_text 7 = .ok (.istore_n 1, 1) := by decide +kernel
theorem dX9_text_8 : decode cX9_text 8 = .ok (.aload_n 0, 1) := by decide +kernel
theorem dX9_text_9 : decode cX9_text 9 = .ok (.getfield 41, 3) := by decide +kernel
theorem dX9_text_12 : decode cX9_text 12 = .ok (.iconst 0, 1) := by decide +kernel
theorem dX9_text_13 : decode cX9_text 13 = .ok (.putfield 234, 3) := by decide +kernel
theorem dX9_text_16 : decode cX9_text 16 = .ok (.iload_n 1, 1) := by decide +kernel
theorem dX9_text_17 : decode cX9_text 17 = .ok (.ldc 159, 2) := by decide +kernel
theorem dX9_text_19 : decode cX9_text 19 = .ok (.if_icmp .eq 8, 3) := by decide +kernel
theorem dX9_text_22 : decode cX9_text 22 = .ok (.bipush (-100), 2) := by decide +kernel
theorem dX9_text_24 : decode cX9_text 24 = .ok (.iload_n 1, 1) := by decide +kernel
theorem dX9_text_25 : decode cX9_text 25 = .ok (.isub, 1) := by decide +kernel
theorem dX9_text_26 : decode cX9_text 26 = .ok (.ireturn, 1) := by decide +kernel
theorem dX9_text_27 : decode cX9_text 27 = .ok (.aload_n 0, 1) := by decide +kernel
theorem dX9_text_28 : decode cX9_text 28 = .ok (.getfield 21, 3) := by decide +kernel
theorem dX9_text_31 : decode cX9_text 31 = .ok (.getfield 240, 3) := by decide +kernel
theorem dX9_text_34 : decode cX9_text 34 = .ok (.istore_n 2, 1) := by decide +kernel
theorem dX9_text_35 : decode cX9_text 35 = .ok (.iload_n 2, 1) := by decide +kernel
theorem dX9_text_36 : decode cX9_text 36 = .ok (.bipush 14, 2) := by decide +kernel
theorem dX9_text_38 : decode cX9_text 38 = .ok (.if_icmp .lt 6, 3) := by decide +kernel
theorem dX9_text_41 : decode cX9_text 41 = .ok (.ldc 170, 2) := by decide +kernel
theorem dX9_text_43 : decode cX9_text 43 = .ok (.ireturn, 1) := by decide +kernel
theorem dX9_text_44 : decode cX9_text 44 = .ok (.aload_n 0, 1) := by decide +kernel
theorem dX9_text_45 : decode cX9_text 45 = .ok (.getfield 10, 3) := by decide +kernel
theorem dX9_text_48 : decode cX9_text 48 = .ok (.getfield 243, 3) := by decide +kernel
theorem dX9_text_51 : decode cX9_text 51 = .ok (.iload_n 2, 1) := by decide +kernel
theorem dX9_text_52 : decode cX9_text 52 = .ok (.aaload, 1) := by decide +kernel
theorem dX9_text_53 : decode cX9_text 53 = .ok (.aload_n 0, 1) := by decide +kernel
theorem dX9_text_54 : decode cX9_text 54 = .ok (.getfield 50, 3) := by decide +kernel
theorem dX9_text_57 : decode cX9_text 57 = .ok (.getfield 247, 3) := by decide +kernel
theorem dX9_text_60 : decode cX9_text 60 = .ok (.invokevirtual 251, 3) := by decide +kernel
theorem dX9_text_63 : decode cX9_text 63 = .ok (.aload_n 0, 1) := by decide +kernel
theorem dX9_text_64 : decode cX9_text 64 = .ok (.getfield 21, 3) := by decide +kernel
theorem dX9_text_67 : decode cX9_text 67 = .ok (.iload_n 2, 1) := by decide +kernel
theorem dX9_text_68 : decode cX9_text 68 = .ok (.iconst 1, 1) := by decide +kernel
theorem dX9_text_69 : decode cX9_text 69 = .ok (.iadd, 1) := by decide +kernel
theorem dX9_text_70 : decode cX9_text 70 = .ok (.putfield 240, 3) := by decide +kernel
theorem dX9_text_73 : decode cX9_text 73 = .ok (.iload_n 2, 1) := by decide +kernel
theorem dX9_text_74 : decode cX9_text 74 = .ok (.ireturn, 1) := by decide +kernel
theorem dX9_textTold_0 : decode cX9_textTold 0 = .ok (.iload_n 1, 1) := by decide +kernel
theorem dX9_textTold_1 : decode cX9_textTold 1 = .ok (.iconst 0, 1) := by decide +kernel
theorem dX9_textTold_2 : decode cX9_textTold 2 = .ok (.aload_n 0, 1) := by decide +kernel
theorem dX9_textTold_3 : decode cX9_textTold 3 = .ok (.getfield 21, 3) := by decide +kernel
theorem dX9_textTold_6 : decode cX9_textTold 6 = .ok (.getfield 240, 3) := by decide +kernel
theorem dX9_textTold_9 : decode cX9_textTold 9 = .ok (.iconst 1, 1) := by decide +kernel
theorem dX9_textTold_10 : decode cX9_textTold 10 = .ok (.isub, 1) := by decide +kernel
theorem dX9_textTold_11 : decode cX9_textTold 11 = .ok (.invokestatic 81, 3) := by decide +kernel
theorem dX9_textTold_14 : decode cX9_textTold 14 = .ok (.ifCond .eq 12, 3) := by decide +kernel
theorem dX9_textTold_17 : decode cX9_textTold 17 = .ok (.iload_n 2, 1) := by decide +kernel
theorem dX9_textTold_18 : decode cX9_textTold 18 = .ok (.iconst 0, 1) := by decide +kernel
theorem dX9_textTold_19 : decode cX9_textTold 19 = .ok (.iconst 1, 1) := by decide +kernel
theorem dX9_textTold_20 : decode cX9_textTold 20 = .ok (.invokestatic 81, 3) := by decide +kernel
theorem dX9_textTold_23 : decode cX9_textTold 23 = .ok (.ifCond .ne 6, 3) := by decide +kernel
theorem dX9_textTold_26 : decode cX9_textTold 26 = .ok (.ldc 85, 2) := by decide +kernel
theorem dX9_textTold_28 : decode cX9_textTold 28 = .ok (.ireturn, 1) := by decide +kernel
theorem dX9_textTold_29 : decode cX9_textTold 29 = .ok (.iload_n 2, 1) := by decide +kernel
theorem dX9_textTold_30 : decode cX9_textTold 30 = .ok (.ifCond .ne 18, 3) := by decide +kernel
theorem dX9_textTold_33 : decode cX9_textTold 33 = .ok (.aload_n 0, 1) := by decide +kernel
theorem dX9_textTold_34 : decode cX9_textTold 34 = .ok (.getfield 10, 3) := by decide +kernel
theorem dX9_textTold_37 : decode cX9_textTold 37 = .ok (.getfield 243, 3) := by decide +kernel
theorem dX9_textTold_40 : decode cX9_textTold 40 = .ok (.iload_n 1, 1) := by decide +kernel
theorem dX9_textTold_41 : decode cX9_textTold 41 = .ok (.aaload, 1) := by decide +kernel
theorem dX9_textTold_42 : decode cX9_textTold 42 = .ok (.getfield 256, 3) := by decide +kernel
theorem dX9_textTold_45 : decode cX9_textTold 45 = .ok (.goto 15, 3) := by decide +kernel
theorem dX9_textTold_48 : decode cX9_textTold 48 = .ok (.aload_n 0, 1) := by decide +kernel
theorem dX9_textTold_49 : decode cX9_textTold 49 = .ok (.getfield 10, 3) := by decide +kernel
theorem dX9_textTold_52 : decode cX9_textTold 52 = .ok (.getfield 243, 3) := by decide +kernel
theorem dX9_textTold_55 : decode cX9_textTold 55 = .ok (.iload_n 1, 1) := by decide +kernel
theorem dX9_textTold_56 : decode cX9_textTold 56 = .ok (.aaload, 1) := by decide +kernel
theorem dX9_textTold_57 : decode cX9_textTold 57 = .ok (.getfield 259, 3) := by decide +kernel
theorem dX9_textTold_60 : decode cX9_textTold 60 = .ok (.ireturn, 1) := by decide +kernel
theorem dX9_why_0 : decode cX9_why 0 = .ok (.iload_n 1, 1) := by decide +kernel
theorem dX9_why_1 : decode cX9_why 1 = .ok (.iconst 0, 1) := by decide +kernel
theorem dX9_why_2 : decode cX9_why 2 = .ok (.iconst 2, 1) := by decide +kernel
theorem dX9_why_3 : decode cX9_why 3 = .ok (.invokestatic 81, 3) := by decide +kernel
theorem dX9_why_6 : decode cX9_why 6 = .ok (.ifCond .ne 6, 3) := by decide +kernel
theorem dX9_why_9 : decode cX9_why 9 = .ok (.ldc 85, 2) := by decide +kernel
theorem dX9_why_11 : decode cX9_why 11 = .ok (.ireturn, 1) := by decide +kernel
theorem dX9_why_12 : decode cX9_why 12 = .ok (.aload_n 0, 1) := by decide +kernel
theorem dX9_why_13 : decode cX9_why 13 = .ok (.getfield 10, 3) := by decide +kernel
theorem dX9_why_16 : decode cX9_why 16 = .ok (.iload_n 1, 1) := by decide +kernel
theorem dX9_why_17 : decode cX9_why 17 = .ok (.aload_n 0, 1) := by decide +kernel
theorem dX9_why_18 : decode cX9_why 18 = .ok (.getfield 21, 3) := by decide +kernel
theorem dX9_why_21 : decode cX9_why 21 = .ok (.getfield 240, 3) := by decide +kernel
theorem dX9_why_24 : decode cX9_why 24 = .ok (.invokevirtual 262, 3) := by decide +kernel
theorem dX9_why_27 : decode cX9_why 27 = .ok (.ireturn, 1) := by decide +kernel
theorem dX9_sheet_0 : decode cX9_sheet 0 = .ok (.iload_n 1, 1) := by decide +kernel
theorem dX9_sheet_1 : decode cX9_sheet 1 = .ok (.invokestatic 265, 3) := by decide +kernel
theorem dX9_sheet_4 : decode cX9_sheet 4 = .ok (.ifCond .eq 12, 3) := by decide +kernel
theorem dX9_sheet_7 : decode cX9_sheet 7 = .ok (.iload_n 2, 1) := by decide +kernel
theorem dX9_sheet_8 : decode cX9_sheet 8 = .ok (.iconst (-1), 1) := by decide +kernel
theorem dX9_sheet_9 : decode cX9_sheet 9 = .ok (.iconst 1, 1) := by decide +kernel
theorem dX9_sheet_10 : decode cX9_sheet 10 = .ok (.invokestatic 81, 3) := by decide +kernel
theorem dX9_sheet_13 : decode cX9_sheet 13 = .ok (.ifCond .ne 6, 3) := by decide +kernel
theorem dX9_sheet_16 : decode cX9_sheet 16 = .ok (.ldc 85, 2) := by decide +kernel
theorem dX9_sheet_18 : decode cX9_sheet 18 = .ok (.ireturn, 1) := by decide +kernel
theorem dX9_sheet_19 : decode cX9_sheet 19 = .ok (.iload_n 2, 1) := by decide +kernel
theorem dX9_sheet_20 : decode cX9_sheet 20 = .ok (.iconst (-1), 1) := by decide +kernel
theorem dX9_sheet_21 : decode cX9_sheet 21 = .ok (.if_icmp .ne 16, 3) := by decide +kernel
theorem dX9_sheet_24 : decode cX9_sheet 24 = .ok (.aload_n 0, 1) := by decide +kernel
theorem dX9_sheet_25 : decode cX9_sheet 25 = .ok (.getfield 56, 3) := by decide +kernel
theorem dX9_sheet_28 : decode cX9_sheet 28 = .ok (.iload_n 1, 1) := by decide +kernel
theorem dX9_sheet_29 : decode cX9_sheet 29 = .ok (.aaload, 1) := by decide +kernel
theorem dX9_sheet_30 : decode cX9_sheet 30 = .ok (.iconst (-1), 1) := by decide +kernel
theorem dX9_sheet_31 : decode cX9_sheet 31 = .ok (.iconst 0, 1) := by decide +kernel
theorem dX9_sheet_32 : decode cX9_sheet 32 = .ok (.invokevirtual 268, 3) := by decide +kernel
theorem dX9_sheet_35 : decode cX9_sheet 35 = .ok (.iconst 0, 1) := by decide +kernel
theorem dX9_sheet_36 : decode cX9_sheet 36 = .ok (.ireturn, 1) := by decide +kernel
theorem dX9_sheet_37 : decode cX9_sheet 37 = .ok (.iload_n 3, 1) := by decide +kernel
theorem dX9_sheet_38 : decode cX9_sheet 38 = .ok (.bipush 24, 2) := by decide +kernel
theorem dX9_sheet_40 : decode cX9_sheet 40 = .ok (.if_icmp .le 6, 3) := by decide +kernel
theorem dX9_sheet_43 : decode cX9_sheet 43 = .ok (.ldc 85, 2) := by decide +kernel
theorem dX9_sheet_45 : decode cX9_sheet 45 = .ok (.ireturn, 1) := by decide +kernel
theorem dX9_sheet_46 : decode cX9_sheet 46 = .ok (.iload_n 3, 1) := by decide +kernel
theorem dX9_sheet_47 : decode cX9_sheet 47 = .ok (.ifCond .ge 7, 3) := by decide +kernel
theorem dX9_sheet_50 : decode cX9_sheet 50 = .ok (.ldc_w 272, 3) := by decide +kernel
theorem dX9_sheet_53 : decode cX9_sheet 53 = .ok (.ireturn, 1) := by decide +kernel
theorem dX9_sheet_54 : decode cX9_sheet 54 = .ok (.aload_n 0, 1) := by decide +kernel
theorem dX9_sheet_55 : decode cX9_sheet 55 = .ok (.getfield 56, 3) := by decide +kernel
theorem dX9_sheet_58 : decode cX9_sheet 58 = .ok (.iload_n 1, 1) := by decide +kernel
theorem dX9_sheet_59 : decode cX9_sheet 59 = .ok (.aaload, 1) := by decide +kernel
theorem dX9_sheet_60 : decode cX9_sheet 60 = .ok (.iload_n 2, 1) := by decide +kernel
theorem dX9_sheet_61 : decode cX9_sheet 61 = .ok (.iload_n 3, 1) := by decide +kernel
theorem dX9_sheet_62 : decode cX9_sheet 62 = .ok (.invokevirtual 268, 3) := by decide +kernel
theorem dX9_sheet_65 : decode cX9_sheet 65 = .ok (.iload_n 3, 1) := by decide +kernel
theorem dX9_sheet_66 : decode cX9_sheet 66 = .ok (.ireturn, 1) := by decide +kernel
theorem dX9_mark_0 : decode cX9_mark 0 = .ok (.iload_n 1, 1) := by decide +kernel
theorem dX9_mark_1 : decode cX9_mark 1 = .ok (.invokestatic 265, 3) := by decide +kernel
theorem dX9_mark_4 : decode cX9_mark 4 = .ok (.ifCond .ne 6, 3) := by decide +kernel
theorem dX9_mark_7 : decode cX9_mark 7 = .ok (.ldc 85, 2) := by decide +kernel
theorem dX9_mark_9 : decode cX9_mark 9 = .ok (.ireturn, 1) := by decide +kernel
theorem dX9_mark_10 : decode cX9_mark 10 = .ok (.aload_n 0, 1) := by decide +kernel
theorem dX9_mark_11 : decode cX9_mark 11 = .ok (.getfield 56, 3) := by decide +kernel
theorem dX9_mark_14 : decode cX9_mark 14 = .ok (.iload_n 1, 1) := by decide +kernel
theorem dX9_mark_15 : decode cX9_mark 15 = .ok (.aaload, 1) := by decide +kernel
theorem dX9_mark_16 : decode cX9_mark 16 = .ok (.astore 4, 2) := by decide +kernel
theorem dX9_mark_18 : decode cX9_mark 18 = .ok (.aload 4, 2) := by decide +kernel
theorem dX9_mark_20 : decode cX9_mark 20 = .ok (.getfield 273, 3) := by decide +kernel
theorem dX9_mark_23 : decode cX9_mark 23 = .ok (.iconst (-1), 1) := by decide +kernel
theorem dX9_mark_24 : decode cX9_mark 24 = .ok (.if_icmp .ne 7, 3) := by decide +kernel
theorem dX9_mark_27 : decode cX9_mark 27 = .ok (.ldc_w 276, 3) := by decide +kernel
theorem dX9_mark_30 : decode cX9_mark 30 = .ok (.ireturn, 1) := by decide +kernel
theorem dX9_mark_31 : decode cX9_mark 31 = .ok (.aload 4, 2) := by decide +kernel
theorem dX9_mark_33 : decode cX9_mark 33 = .ok (.iload_n 2, 1) := by decide +kernel
theorem dX9_mark_34 : decode cX9_mark 34 = .ok (.invokevirtual 277, 3) := by decide +kernel
theorem dX9_mark_37 : decode cX9_mark 37 = .ok (.ifCond .ne 7, 3) := by decide +kernel
theorem dX9_mark_40 : decode cX9_mark 40 = .ok (.ldc_w 280, 3) := by decide +kernel
theorem dX9_mark_43 : decode cX9_mark 43 = .ok (.ireturn, 1) := by decide +kernel
theorem dX9_mark_44 : decode cX9_mark 44 = .ok (.aload 4, 2) := by decide +kernel
theorem dX9_mark_46 : decode cX9_mark 46 = .ok (.getfield 273, 3) := by decide +kernel
theorem dX9_mark_49 : decode cX9_mark 49 = .ok (.ifCond .ne 23, 3) := by decide +kernel
theorem dX9_mark_52 : decode cX9_mark 52 = .ok (.iload_n 3, 1) := by decide +kernel
theorem dX9_mark_53 : decode cX9_mark 53 = .ok (.ldc 159, 2) := by decide +kernel
theorem dX9_mark_55 : decode cX9_mark 55 = .ok (.if_icmp .ne 6, 3) := by decide +kernel
theorem dX9_mark_58 : decode cX9_mark 58 = .ok (.ldc 123, 2) := by decide +kernel
theorem dX9_mark_60 : decode cX9_mark 60 = .ok (.ireturn, 1) := by decide +kernel
theorem dX9_mark_61 : decode cX9_mark 61 = .ok (.aload 4, 2) := by decide +kernel
theorem dX9_mark_63 : decode cX9_mark 63 = .ok (.getfield 281, 3) := by decide +kernel
theorem dX9_mark_66 : decode cX9_mark 66 = .ok (.iload_n 2, 1) := by decide +kernel
theorem dX9_mark_67 : decode cX9_mark 67 = .ok (.iload_n 3, 1) := by decide +kernel
theorem dX9_mark_68 : decode cX9_mark 68 = .ok (.i2s, 1) := by decide +kernel
theorem dX9_mark_69 : decode cX9_mark 69 = .ok (.iastore, 1) := by decide +kernel
theorem dX9_mark_70 : decode cX9_mark 70 = .ok (.iconst 1, 1) := by decide +kernel
theorem dX9_mark_71 : decode cX9_mark 71 = .ok (.ireturn, 1) := by decide +kernel
theorem dX9_mark_72 : decode cX9_mark 72 = .ok (.iload_n 3, 1) := by decide +kernel
theorem dX9_mark_73 : decode cX9_mark 73 = .ok (.ldc 159, 2) := by decide +kernel
theorem dX9_mark_75 : decode cX9_mark 75 = .ok (.if_icmp .eq 18, 3) := by decide +kernel
theorem dX9_mark_78 : decode cX9_mark 78 = .ok (.iload_n 3, 1) := by decide +kernel
theorem dX9_mark_79 : decode cX9_mark 79 = .ok (.ldc_w 284, 3) := by decide +kernel
theorem dX9_mark_82 : decode cX9_mark 82 = .ok (.ldc 186, 2) := by decide +kernel
theorem dX9_mark_84 : decode cX9_mark 84 = .ok (.invokestatic 81, 3) := by decide +kernel
theorem dX9_mark_87 : decode cX9_mark 87 = .ok (.ifCond .ne 6, 3) := by decide +kernel
theorem dX9_mark_90 : decode cX9_mark 90 = .ok (.ldc 85, 2) := by decide +kernel
theorem dX9_mark_92 : decode cX9_mark 92 = .ok (.ireturn, 1) := by decide +kernel
theorem dX9_mark_93 : decode cX9_mark 93 = .ok (.aload 4, 2) := by decide +kernel
theorem dX9_mark_95 : decode cX9_mark 95 = .ok (.getfield 281, 3) := by decide +kernel
theorem dX9_mark_98 : decode cX9_mark 98 = .ok (.iload_n 2, 1) := by decide +kernel
theorem dX9_mark_99 : decode cX9_mark 99 = .ok (.iload_n 3, 1) := by decide +kernel
theorem dX9_mark_100 : decode cX9_mark 100 = .ok (.iastore, 1) := by decide +kernel
theorem dX9_mark_101 : decode cX9_mark 101 = .ok (.iconst 1, 1) := by decide +kernel
theorem dX9_mark_102 : decode cX9_mark 102 = .ok (.ireturn, 1) := by decide +kernel
theorem dX9_pour_0 : decode cX9_pour 0 = .ok (.iload_n 1, 1) := by decide +kernel
theorem dX9_pour_1 : decode cX9_pour 1 = .ok (.invokestatic 265, 3) := by decide +kernel
theorem dX9_pour_4 : decode cX9_pour 4 = .ok (.ifCond .eq 12, 3) := by decide +kernel
theorem dX9_pour_7 : decode cX9_pour 7 = .ok (.iload_n 2, 1) := by decide +kernel
theorem dX9_pour_8 : decode cX9_pour 8 = .ok (.iconst 0, 1) := by decide +kernel
theorem dX9_pour_9 : decode cX9_pour 9 = .ok (.iconst 4, 1) := by decide +kernel
theorem dX9_pour_10 : decode cX9_pour 10 = .ok (.invokestatic 81, 3) := by decide +kernel
theorem dX9_pour_13 : decode cX9_pour 13 = .ok (.ifCond .ne 6, 3) := by decide +kernel
theorem dX9_pour_16 : decode cX9_pour 16 = .ok (.ldc 85, 2) := by decide +kernel
theorem dX9_pour_18 : decode cX9_pour 18 = .ok (.ireturn, 1) := by decide +kernel
theorem dX9_pour_19 : decode cX9_pour 19 = .ok (.aload_n 0, 1) := by decide +kernel
theorem dX9_pour_20 : decode cX9_pour 20 = .ok (.getfield 56, 3) := by decide +kernel
theorem dX9_pour_23 : decode cX9_pour 23 = .ok (.iload_n 1, 1) := by decide +kernel
theorem dX9_pour_24 : decode cX9_pour 24 = .ok (.aaload, 1) := by decide +kernel
theorem dX9_pour_25 : decode cX9_pour 25 = .ok (.astore_n 3, 1) := by decide +kernel
theorem dX9_pour_26 : decode cX9_pour 26 = .ok (.aload_n 3, 1) := by decide +kernel
theorem dX9_pour_27 : decode cX9_pour 27 = .ok (.getfield 273, 3) := by decide +kernel
theorem dX9_pour_30 : decode cX9_pour 30 = .ok (.iconst (-1), 1) := by decide +kernel
theorem dX9_pour_31 : decode cX9_pour 31 = .ok (.if_icmp .ne 7, 3) := by decide +kernel
theorem dX9_pour_34 : decode cX9_pour 34 = .ok (.ldc_w 276, 3) := by decide +kernel
theorem dX9_pour_37 : decode cX9_pour 37 = .ok (.ireturn, 1) := by decide +kernel
theorem dX9_pour_38 : decode cX9_pour 38 = .ok (.iconst 0, 1) := by decide +kernel
theorem dX9_pour_39 : decode cX9_pour 39 = .ok (.istore 4, 2) := by decide +kernel
theorem dX9_pour_41 : decode cX9_pour 41 = .ok (.iconst 0, 1) := by decide +kernel
theorem dX9_pour_42 : decode cX9_pour 42 = .ok (.istore 5, 2) := by decide +kernel
theorem dX9_pour_44 : decode cX9_pour 44 = .ok (.iload 5, 2) := by decide +kernel
theorem dX9_pour_46 : decode cX9_pour 46 = .ok (.bipush 6, 2) := by decide +kernel
theorem dX9_pour_48 : decode cX9_pour 48 = .ok (.if_icmp .ge 95, 3) := by decide +kernel
theorem dX9_pour_51 : decode cX9_pour 51 = .ok (.iload 5, 2) := by decide +kernel
theorem dX9_pour_53 : decode cX9_pour 53 = .ok (.aload_n 3, 1) := by decide +kernel
theorem dX9_pour_54 : decode cX9_pour 54 = .ok (.getfield 285, 3) := by decide +kernel
theorem dX9_pour_57 : decode cX9_pour 57 = .ok (.if_icmp .ge 86, 3) := by decide +kernel
theorem dX9_pour_60 : decode cX9_pour 60 = .ok (.iload_n 2, 1) := by decide +kernel
theorem dX9_pour_61 : decode cX9_pour 61 = .ok (.bipush 6, 2) := by decide +kernel
theorem dX9_pour_63 : decode cX9_pour 63 = .ok (.imul, 1) := by decide +kernel
theorem dX9_pour_64 : decode cX9_pour 64 = .ok (.iload 5, 2) := by decide +kernel
theorem dX9_pour_66 : decode cX9_pour 66 = .ok (.iadd, 1) := by decide +kernel
theorem dX9_pour_67 : decode cX9_pour 67 = .ok (.istore 6, 2) := by decide +kernel
theorem dX9_pour_69 : decode cX9_pour 69 = .ok (.aload_n 3, 1) := by decide +kernel
theorem dX9_pour_70 : decode cX9_pour 70 = .ok (.iload 5, 2) := by decide +kernel
theorem dX9_pour_72 : decode cX9_pour 72 = .ok (.invokevirtual 288, 3) := by decide +kernel
theorem dX9_pour_75 : decode cX9_pour 75 = .ok (.ifCond .eq 20, 3) := by decide +kernel
theorem dX9_pour_78 : decode cX9_pour 78 = .ok (.aload_n 3, 1) := by decide +kernel
theorem dX9_pour_79 : decode cX9_pour 79 = .ok (.getfield 281, 3) := by decide +kernel
theorem dX9_pour_82 : decode cX9_pour 82 = .ok (.iload 5, 2) := by decide +kernel
theorem dX9_pour_84 : decode cX9_pour 84 = .ok (.iaload, 1) := by decide +kernel
theorem dX9_pour_85 : decode cX9_pour 85 = .ok (.iconst 0, 1) := by decide +kernel
theorem dX9_pour_86 : decode cX9_pour 86 = .ok (.sipush 999, 3) := by decide +kernel
theorem dX9_pour_89 : decode cX9_pour 89 = .ok (.invokestatic 291, 3) := by decide +kernel
theorem dX9_pour_92 : decode cX9_pour 92 = .ok (.goto 13, 3) := by decide +kernel
theorem dX9_pour_95 : decode cX9_pour 95 = .ok (.aload_n 0, 1) := by decide +kernel
theorem dX9_pour_96 : decode cX9_pour 96 = .ok (.getfield 21, 3) := by decide +kernel
theorem dX9_pour_99 : decode cX9_pour 99 = .ok (.getfield 92, 3) := by decide +kernel
theorem dX9_pour_102 : decode cX9_pour 102 = .ok (.iload 6, 2) := by decide +kernel
theorem dX9_pour_104 : decode cX9_pour 104 = .ok (.iaload, 1) := by decide +kernel
theorem dX9_pour_105 : decode cX9_pour 105 = .ok (.istore 7, 2) := by decide +kernel
theorem dX9_pour_107 : decode cX9_pour 107 = .ok (.iload 7, 2) := by decide +kernel
theorem dX9_pour_109 : decode cX9_pour 109 = .ok (.aload_n 0, 1) := by decide +kernel
theorem dX9_pour_110 : decode cX9_pour 110 = .ok (.getfield 21, 3) := by decide +kernel
theorem dX9_pour_113 : decode cX9_pour 113 = .ok (.getfield 92, 3) := by decide +kernel
theorem dX9_pour_116 : decode cX9_pour 116 = .ok (.iload 6, 2) := by decide +kernel
theorem dX9_pour_118 : decode cX9_pour 118 = .ok (.iaload, 1) := by decide +kernel
theorem dX9_pour_119 : decode cX9_pour 119 = .ok (.if_icmp .eq 18, 3) := by decide +kernel
theorem dX9_pour_122 : decode cX9_pour 122 = .ok (.iinc 4 1, 3) := by decide +kernel
theorem dX9_pour_125 : decode cX9_pour 125 = .ok (.aload_n 0, 1) := by decide +kernel
theorem dX9_pour_126 : decode cX9_pour 126 = .ok (.getfield 21, 3) := by decide +kernel
theorem dX9_pour_129 : decode cX9_pour 129 = .ok (.getfield 92, 3) := by decide +kernel
theorem dX9_pour_132 : decode cX9_pour 132 = .ok (.iload 6, 2) := by decide +kernel
theorem dX9_pour_134 : decode cX9_pour 134 = .ok (.iload 7, 2) := by decide +kernel
theorem dX9_pour_136 : decode cX9_pour 136 = .ok (.iastore, 1) := by decide +kernel
theorem dX9_pour_137 : decode cX9_pour 137 = .ok (.iinc 5 1, 3) := by decide +kernel
theorem dX9_pour_140 : decode cX9_pour 140 = .ok (.goto (-96), 3) := by decide +kernel
theorem dX9_pour_143 : decode cX9_pour 143 = .ok (.iload 4, 2) := by decide +kernel
theorem dX9_pour_145 : decode cX9_pour 145 = .ok (.ireturn, 1) := by decide +kernel
theorem dX9_reads_0 : decode cX9_reads 0 = .ok (.iload_n 1, 1) := by decide +kernel
theorem dX9_reads_1 : decode cX9_reads 1 = .ok (.invokestatic 265, 3) := by decide +kernel
theorem dX9_reads_4 : decode cX9_reads 4 = .ok (.ifCond .ne 6, 3) := by decide +kernel
theorem dX9_reads_7 : decode cX9_reads 7 = .ok (.ldc 85, 2) := by decide +kernel
theorem dX9_reads_9 : decode cX9_reads 9 = .ok (.ireturn, 1) := by decide +kernel
theorem dX9_reads_10 : decode cX9_reads 10 = .ok (.aload_n 0, 1) := by decide +kernel
theorem dX9_reads_11 : decode cX9_reads 11 = .ok (.getfield 56, 3) := by decide +kernel
theorem dX9_reads_14 : decode cX9_reads 14 = .ok (.iload_n 1, 1) := by decide +kernel
theorem dX9_reads_15 : decode cX9_reads 15 = .ok (.aaload, 1) := by decide +kernel
theorem dX9_reads_16 : decode cX9_reads 16 = .ok (.astore_n 2, 1) := by decide +kernel
theorem dX9_reads_17 : decode cX9_reads 17 = .ok (.aload_n 2, 1) := by decide +kernel
theorem dX9_reads_18 : decode cX9_reads 18 = .ok (.getfield 273, 3) := by decide +kernel
theorem dX9_reads_21 : decode cX9_reads 21 = .ok (.iconst (-1), 1) := by decide +kernel
theorem dX9_reads_22 : decode cX9_reads 22 = .ok (.if_icmp .ne 7, 3) := by decide +kernel
theorem dX9_reads_25 : decode cX9_reads 25 = .ok (.ldc_w 276, 3) := by decide +kernel
theorem dX9_reads_28 : decode cX9_reads 28 = .ok (.ireturn, 1) := by decide +kernel
theorem dX9_reads_29 : decode cX9_reads 29 = .ok (.aload_n 0, 1) := by decide +kernel
theorem dX9_reads_30 : decode cX9_reads 30 = .ok (.getfield 21, 3) := by decide +kernel
theorem dX9_reads_33 : decode cX9_reads 33 = .ok (.invokevirtual 187, 3) := by decide +kernel
theorem dX9_reads_36 : decode cX9_reads 36 = .ok (.iconst 0, 1) := by decide +kernel
theorem dX9_reads_37 : decode cX9_reads 37 = .ok (.istore_n 3, 1) := by decide +kernel
theorem dX9_reads_38 : decode cX9_reads 38 = .ok (.iload_n 3, 1) := by decide +kernel
theorem dX9_reads_39 : decode cX9_reads 39 = .ok (.aload_n 2, 1) := by decide +kernel
theorem dX9_reads_40 : decode cX9_reads 40 = .ok (.getfield 285, 3) := by decide +kernel
theorem dX9_reads_43 : decode cX9_reads 43 = .ok (.if_icmp .ge 37, 3) := by decide +kernel
theorem dX9_reads_46 : decode cX9_reads 46 = .ok (.aload_n 2, 1) := by decide +kernel
theorem dX9_reads_47 : decode cX9_reads 47 = .ok (.iload_n 3, 1) := by decide +kernel
theorem dX9_reads_48 : decode cX9_reads 48 = .ok (.invokevirtual 288, 3) := by decide +kernel
theorem dX9_reads_51 : decode cX9_reads 51 = .ok (.ifCond .eq 23, 3) := by decide +kernel
theorem dX9_reads_54 : decode cX9_reads 54 = .ok (.aload_n 2, 1) := by decide +kernel
theorem dX9_reads_55 : decode cX9_reads 55 = .ok (.getfield 281, 3) := by decide +kernel
theorem dX9_reads_58 : decode cX9_reads 58 = .ok (.iload_n 3, 1) := by decide +kernel
theorem dX9_reads_59 : decode cX9_reads 59 = .ok (.iaload, 1) := by decide +kernel
theorem dX9_reads_60 : decode cX9_reads 60 = .ok (.aload_n 0, 1) := by decide +kernel
theorem dX9_reads_61 : decode cX9_reads 61 = .ok (.getfield 21, 3) := by decide +kernel
theorem dX9_reads_64 : decode cX9_reads 64 = .ok (.getfield 190, 3) := by decide +kernel
theorem dX9_reads_67 : decode cX9_reads 67 = .ok (.iload_n 3, 1) := by decide +kernel
theorem dX9_reads_68 : decode cX9_reads 68 = .ok (.iaload, 1) := by decide +kernel
theorem dX9_reads_69 : decode cX9_reads 69 = .ok (.if_icmp .eq 5, 3) := by decide +kernel
theorem dX9_reads_72 : decode cX9_reads 72 = .ok (.iload_n 3, 1) := by decide +kernel
theorem dX9_reads_73 : decode cX9_reads 73 = .ok (.ireturn, 1) := by decide +kernel
theorem dX9_reads_74 : decode cX9_reads 74 = .ok (.iinc 3 1, 3) := by decide +kernel
theorem dX9_reads_77 : decode cX9_reads 77 = .ok (.goto (-39), 3) := by decide +kernel
theorem dX9_reads_80 : decode cX9_reads 80 = .ok (.ldc 159, 2) := by decide +kernel
theorem dX9_reads_82 : decode cX9_reads 82 = .ok (.ireturn, 1) := by decide +kernel
theorem dX9_copy_0 : decode cX9_copy 0 = .ok (.iload_n 1, 1) := by decide +kernel
theorem dX9_copy_1 : decode cX9_copy 1 = .ok (.invokestatic 265, 3) := by decide +kernel
theorem dX9_copy_4 : decode cX9_copy 4 = .ok (.ifCond .eq 10, 3) := by decide +kernel
theorem dX9_copy_7 : decode cX9_copy 7 = .ok (.iload_n 3, 1) := by decide +kernel
theorem dX9_copy_8 : decode cX9_copy 8 = .ok (.invokestatic 265, 3) := by decide +kernel
theorem dX9_copy_11 : decode cX9_copy 11 = .ok (.ifCond .ne 6, 3) := by decide +kernel
theorem dX9_copy_14 : decode cX9_copy 14 = .ok (.ldc 85, 2) := by decide +kernel
theorem dX9_copy_16 : decode cX9_copy 16 = .ok (.ireturn, 1) := by decide +kernel
theorem dX9_copy_17 : decode cX9_copy 17 = .ok (.aload_n 0, 1) := by decide +kernel
theorem dX9_copy_18 : decode cX9_copy 18 = .ok (.getfield 56, 3) := by decide +kernel
theorem dX9_copy_21 : decode cX9_copy 21 = .ok (.iload_n 1, 1) := by decide +kernel
theorem dX9_copy_22 : decode cX9_copy 22 = .ok (.aaload, 1) := by decide +kernel
theorem dX9_copy_23 : decode cX9_copy 23 = .ok (.astore 6, 2) := by decide +kernel
theorem dX9_copy_25 : decode cX9_copy 25 = .ok (.aload_n 0, 1) := by decide +kernel
theorem dX9_copy_26 : decode cX9_copy 26 = .ok (.getfield 56, 3) := by decide +kernel
theorem dX9_copy_29 : decode cX9_copy 29 = .ok (.iload_n 3, 1) := by decide +kernel
theorem dX9_copy_30 : decode cX9_copy 30 = .ok (.aaload, 1) := by decide +kernel
theorem dX9_copy_31 : decode cX9_copy 31 = .ok (.astore 7, 2) := by decide +kernel
theorem dX9_copy_33 : decode cX9_copy 33 = .ok (.aload 6, 2) := by decide +kernel
theorem dX9_copy_35 : decode cX9_copy 35 = .ok (.getfield 273, 3) := by decide +kernel
theorem dX9_copy_38 : decode cX9_copy 38 = .ok (.iconst (-1), 1) := by decide +kernel
theorem dX9_copy_39 : decode cX9_copy 39 = .ok (.if_icmp .eq 12, 3) := by decide +kernel
theorem dX9_copy_42 : decode cX9_copy 42 = .ok (.aload 7, 2) := by decide +kernel
theorem dX9_copy_44 : decode cX9_copy 44 = .ok (.getfield 273, 3) := by decide +kernel
theorem dX9_copy_47 : decode cX9_copy 47 = .ok (.iconst (-1), 1) := by decide +kernel
theorem dX9_copy_48 : decode cX9_copy 48 = .ok (.if_icmp .ne 7, 3) := by decide +kernel
theorem dX9_copy_51 : decode cX9_copy 51 = .ok (.ldc_w 276, 3) := by decide +kernel
theorem dX9_copy_54 : decode cX9_copy 54 = .ok (.ireturn, 1) := by decide +kernel
theorem dX9_copy_55 : decode cX9_copy 55 = .ok (.aload 6, 2) := by decide +kernel
theorem dX9_copy_57 : decode cX9_copy 57 = .ok (.getfield 273, 3) := by decide +kernel
theorem dX9_copy_60 : decode cX9_copy 60 = .ok (.aload 7, 2) := by decide +kernel
theorem dX9_copy_62 : decode cX9_copy 62 = .ok (.getfield 273, 3) := by decide +kernel
theorem dX9_copy_65 : decode cX9_copy 65 = .ok (.if_icmp .eq 6, 3) := by decide +kernel
theorem dX9_copy_68 : decode cX9_copy 68 = .ok (.ldc 123, 2) := by decide +kernel
theorem dX9_copy_70 : decode cX9_copy 70 = .ok (.ireturn, 1) := by decide +kernel
theorem dX9_copy_71 : decode cX9_copy 71 = .ok (.aload 6, 2) := by decide +kernel
theorem dX9_copy_73 : decode cX9_copy 73 = .ok (.iload_n 2, 1) := by decide +kernel
theorem dX9_copy_74 : decode cX9_copy 74 = .ok (.iload 5, 2) := by decide +kernel
theorem dX9_copy_76 : decode cX9_copy 76 = .ok (.invokevirtual 294, 3) := by decide +kernel
theorem dX9_copy_79 : decode cX9_copy 79 = .ok (.ifCond .eq 15, 3) := by decide +kernel
theorem dX9_copy_82 : decode cX9_copy 82 = .ok (.aload 7, 2) := by decide +kernel
theorem dX9_copy_84 : decode cX9_copy 84 = .ok (.iload 4, 2) := by decide +kernel
theorem dX9_copy_86 : decode cX9_copy 86 = .ok (.iload 5, 2) := by decide +kernel
theorem dX9_copy_88 : decode cX9_copy 88 = .ok (.invokevirtual 294, 3) := by decide +kernel
theorem dX9_copy_91 : decode cX9_copy 91 = .ok (.ifCond .ne 7, 3) := by decide +kernel
theorem dX9_copy_94 : decode cX9_copy 94 = .ok (.ldc_w 280, 3) := by decide +kernel
theorem dX9_copy_97 : decode cX9_copy 97 = .ok (.ireturn, 1) := by decide +kernel
theorem dX9_copy_98 : decode cX9_copy 98 = .ok (.aload 6, 2) := by decide +kernel
theorem dX9_copy_100 : decode cX9_copy 100 = .ok (.getfield 281, 3) := by decide +kernel
theorem dX9_copy_103 : decode cX9_copy 103 = .ok (.iload_n 2, 1) := by decide +kernel
theorem dX9_copy_104 : decode cX9_copy 104 = .ok (.aload 7, 2) := by decide +kernel
theorem dX9_copy_106 : decode cX9_copy 106 = .ok (.getfield 281, 3) := by decide +kernel
theorem dX9_copy_109 : decode cX9_copy 109 = .ok (.iload 4, 2) := by decide +kernel
theorem dX9_copy_111 : decode cX9_copy 111 = .ok (.iload 5, 2) := by decide +kernel
theorem dX9_copy_113 : decode cX9_copy 113 = .ok (.invokestatic 297, 3) := by decide +kernel
theorem dX9_copy_116 : decode cX9_copy 116 = .ok (.iload 5, 2) := by decide +kernel
theorem dX9_copy_118 : decode cX9_copy 118 = .ok (.ireturn, 1) := by decide +kernel
theorem dX9_lay_0 : decode cX9_lay 0 = .ok (.iload_n 1, 1) := by decide +kernel
theorem dX9_lay_1 : decode cX9_lay 1 = .ok (.invokestatic 303, 3) := by decide +kernel
theorem dX9_lay_4 : decode cX9_lay 4 = .ok (.ifCond .eq 36, 3) := by decide +kernel
theorem dX9_lay_7 : decode cX9_lay 7 = .ok (.iload_n 2, 1) := by decide +kernel
theorem dX9_lay_8 : decode cX9_lay 8 = .ok (.iconst 0, 1) := by decide +kernel
theorem dX9_lay_9 : decode cX9_lay 9 = .ok (.iconst 3, 1) := by decide +kernel
theorem dX9_lay_10 : decode cX9_lay 10 = .ok (.invokestatic 81, 3) := by decide +kernel
theorem dX9_lay_13 : decode cX9_lay 13 = .ok (.ifCond .eq 27, 3) := by decide +kernel
theorem dX9_lay_16 : decode cX9_lay 16 = .ok (.iload_n 2, 1) := by decide +kernel
theorem dX9_lay_17 : decode cX9_lay 17 = .ok (.iconst 1, 1) := by decide +kernel
theorem dX9_lay_18 : decode cX9_lay 18 = .ok (.if_icmp .ne 10, 3) := by decide +kernel
theorem dX9_lay_21 : decode cX9_lay 21 = .ok (.iload_n 3, 1) := by decide +kernel
theorem dX9_lay_22 : decode cX9_lay 22 = .ok (.invokestatic 72, 3) := by decide +kernel
theorem dX9_lay_25 : decode cX9_lay 25 = .ok (.ifCond .eq 15, 3) := by decide +kernel
theorem dX9_lay_28 : decode cX9_lay 28 = .ok (.iload_n 2, 1) := by decide +kernel
theorem dX9_lay_29 : decode cX9_lay 29 = .ok (.iconst 2, 1) := by decide +kernel
theorem dX9_lay_30 : decode cX9_lay 30 = .ok (.if_icmp .ne 13, 3) := by decide +kernel
theorem dX9_lay_33 : decode cX9_lay 33 = .ok (.iload_n 3, 1) := by decide +kernel
theorem dX9_lay_34 : decode cX9_lay 34 = .ok (.invokestatic 265, 3) := by decide +kernel
theorem dX9_lay_37 : decode cX9_lay 37 = .ok (.ifCond .ne 6, 3) := by decide +kernel
theorem dX9_lay_40 : decode cX9_lay 40 = .ok (.ldc 85, 2) := by decide +kernel
theorem dX9_lay_42 : decode cX9_lay 42 = .ok (.ireturn, 1) := by decide +kernel
theorem dX9_lay_43 : decode cX9_lay 43 = .ok (.iload_n 2, 1) := by decide +kernel
theorem dX9_lay_44 : decode cX9_lay 44 = .ok (.iconst 2, 1) := by decide +kernel
theorem dX9_lay_45 : decode cX9_lay 45 = .ok (.if_icmp .ne 20, 3) := by decide +kernel
theorem dX9_lay_48 : decode cX9_lay 48 = .ok (.aload_n 0, 1) := by decide +kernel
theorem dX9_lay_49 : decode cX9_lay 49 = .ok (.getfield 56, 3) := by decide +kernel
theorem dX9_lay_52 : decode cX9_lay 52 = .ok (.iload_n 3, 1) := by decide +kernel
theorem dX9_lay_53 : decode cX9_lay 53 = .ok (.aaload, 1) := by decide +kernel
theorem dX9_lay_54 : decode cX9_lay 54 = .ok (.getfield 273, 3) := by decide +kernel
theorem dX9_lay_57 : decode cX9_lay 57 = .ok (.iconst (-1), 1) := by decide +kernel
theorem dX9_lay_58 : decode cX9_lay 58 = .ok (.if_icmp .ne 7, 3) := by decide +kernel
theorem dX9_lay_61 : decode cX9_lay 61 = .ok (.ldc_w 276, 3) := by decide +kernel
theorem dX9_lay_64 : decode cX9_lay 64 = .ok (.ireturn, 1) := by decide +kernel
theorem dX9_lay_65 : decode cX9_lay 65 = .ok (.aload_n 0, 1) := by decide +kernel
theorem dX9_lay_66 : decode cX9_lay 66 = .ok (.getfield 63, 3) := by decide +kernel
theorem dX9_lay_69 : decode cX9_lay 69 = .ok (.iload_n 1, 1) := by decide +kernel
theorem dX9_lay_70 : decode cX9_lay 70 = .ok (.aaload, 1) := by decide +kernel
theorem dX9_lay_71 : decode cX9_lay 71 = .ok (.astore 4, 2) := by decide +kernel
theorem dX9_lay_73 : decode cX9_lay 73 = .ok (.aload 4, 2) := by decide +kernel
theorem dX9_lay_75 : decode cX9_lay 75 = .ok (.getfield 306, 3) := by decide +kernel
theorem dX9_lay_78 : decode cX9_lay 78 = .ok (.istore 5, 2) := by decide +kernel
theorem dX9_lay_80 : decode cX9_lay 80 = .ok (.aload 4, 2) := by decide +kernel
theorem dX9_lay_82 : decode cX9_lay 82 = .ok (.iload_n 2, 1) := by decide +kernel
theorem dX9_lay_83 : decode cX9_lay 83 = .ok (.putfield 306, 3) := by decide +kernel
theorem dX9_lay_86 : decode cX9_lay 86 = .ok (.iload_n 2, 1) := by decide +kernel
theorem dX9_lay_87 : decode cX9_lay 87 = .ok (.iconst 1, 1) := by decide +kernel
theorem dX9_lay_88 : decode cX9_lay 88 = .ok (.if_icmp .ne 48, 3) := by decide +kernel
theorem dX9_lay_91 : decode cX9_lay 91 = .ok (.aload 4, 2) := by decide +kernel
theorem dX9_lay_93 : decode cX9_lay 93 = .ok (.aload_n 0, 1) := by decide +kernel
theorem dX9_lay_94 : decode cX9_lay 94 = .ok (.getfield 21, 3) := by decide +kernel
theorem dX9_lay_97 : decode cX9_lay 97 = .ok (.getfield 86, 3) := by decide +kernel
theorem dX9_lay_100 : decode cX9_lay 100 = .ok (.iload_n 3, 1) := by decide +kernel
theorem dX9_lay_101 : decode cX9_lay 101 = .ok (.iaload, 1) := by decide +kernel
theorem dX9_lay_102 : decode cX9_lay 102 = .ok (.putfield 309, 3) := by decide +kernel
theorem dX9_lay_105 : decode cX9_lay 105 = .ok (.aload 4, 2) := by decide +kernel
theorem dX9_lay_107 : decode cX9_lay 107 = .ok (.aload_n 0, 1) := by decide +kernel
theorem dX9_lay_108 : decode cX9_lay 108 = .ok (.getfield 21, 3) := by decide +kernel
theorem dX9_lay_111 : decode cX9_lay 111 = .ok (.getfield 89, 3) := by decide +kernel
theorem dX9_lay_114 : decode cX9_lay 114 = .ok (.iload_n 3, 1) := by decide +kernel
theorem dX9_lay_115 : decode cX9_lay 115 = .ok (.iaload, 1) := by decide +kernel
theorem dX9_lay_116 : decode cX9_lay 116 = .ok (.putfield 312, 3) := by decide +kernel
theorem dX9_lay_119 : decode cX9_lay 119 = .ok (.aload 4, 2) := by decide +kernel
theorem dX9_lay_121 : decode cX9_lay 121 = .ok (.aload_n 0, 1) := by decide +kernel
theorem dX9_lay_122 : decode cX9_lay 122 = .ok (.getfield 21, 3) := by decide +kernel
theorem dX9_lay_125 : decode cX9_lay 125 = .ok (.getfield 92, 3) := by decide +kernel
theorem dX9_lay_128 : decode cX9_lay 128 = .ok (.iload_n 3, 1) := by decide +kernel
theorem dX9_lay_129 : decode cX9_lay 129 = .ok (.iaload, 1) := by decide +kernel
theorem dX9_lay_130 : decode cX9_lay 130 = .ok (.putfield 315, 3) := by decide +kernel
theorem dX9_lay_133 : decode cX9_lay 133 = .ok (.goto 36, 3) := by decide +kernel
theorem dX9_lay_136 : decode cX9_lay 136 = .ok (.iload_n 2, 1) := by decide +kernel
theorem dX9_lay_137 : decode cX9_lay 137 = .ok (.iconst 2, 1) := by decide +kernel
theorem dX9_lay_138 : decode cX9_lay 138 = .ok (.if_icmp .ne 20, 3) := by decide +kernel
theorem dX9_lay_141 : decode cX9_lay 141 = .ok (.aload 4, 2) := by decide +kernel
theorem dX9_lay_143 : decode cX9_lay 143 = .ok (.getfield 318, 3) := by decide +kernel
theorem dX9_lay_146 : decode cX9_lay 146 = .ok (.aload_n 0, 1) := by decide +kernel
theorem dX9_lay_147 : decode cX9_lay 147 = .ok (.getfield 56, 3) := by decide +kernel
theorem dX9_lay_150 : decode cX9_lay 150 = .ok (.iload_n 3, 1) := by decide +kernel
theorem dX9_lay_151 : decode cX9_lay 151 = .ok (.aaload, 1) := by decide +kernel
theorem dX9_lay_152 : decode cX9_lay 152 = .ok (.invokevirtual 322, 3) := by decide +kernel
theorem dX9_lay_155 : decode cX9_lay 155 = .ok (.goto 14, 3) := by decide +kernel
theorem dX9_lay_158 : decode cX9_lay 158 = .ok (.iload_n 2, 1) := by decide +kernel
theorem dX9_lay_159 : decode cX9_lay 159 = .ok (.iconst 3, 1) := by decide +kernel
theorem dX9_lay_160 : decode cX9_lay 160 = .ok (.if_icmp .ne 9, 3) := by decide +kernel
theorem dX9_lay_163 : decode cX9_lay 163 = .ok (.aload 4, 2) := by decide +kernel
theorem dX9_lay_165 : decode cX9_lay 165 = .ok (.iload_n 3, 1) := by decide +kernel
theorem dX9_lay_166 : decode cX9_lay 166 = .ok (.putfield 325, 3) := by decide +kernel
theorem dX9_lay_169 : decode cX9_lay 169 = .ok (.iload 5, 2) := by decide +kernel
theorem dX9_lay_171 : decode cX9_lay 171 = .ok (.ireturn, 1) := by decide +kernel
theorem dX9_ask_0 : decode cX9_ask 0 = .ok (.iload_n 1, 1) := by decide +kernel
theorem dX9_ask_1 : decode cX9_ask 1 = .ok (.invokestatic 303, 3) := by decide +kernel
theorem dX9_ask_4 : decode cX9_ask 4 = .ok (.ifCond .eq 10, 3) := by decide +kernel
theorem dX9_ask_7 : decode cX9_ask 7 = .ok (.iload_n 2, 1) := by decide +kernel
theorem dX9_ask_8 : decode cX9_ask 8 = .ok (.invokestatic 76, 3) := by decide +kernel
theorem dX9_ask_11 : decode cX9_ask 11 = .ok (.ifCond .ne 6, 3) := by decide +kernel
theorem dX9_ask_14 : decode cX9_ask 14 = .ok (.ldc 85, 2) := by decide +kernel
theorem dX9_ask_16 : decode cX9_ask 16 = .ok (.ireturn, 1) := by decide +kernel
theorem dX9_ask_17 : decode cX9_ask 17 = .ok (.aload_n 0, 1) := by decide +kernel
theorem dX9_ask_18 : decode cX9_ask 18 = .ok (.getfield 63, 3) := by decide +kernel
theorem dX9_ask_21 : decode cX9_ask 21 = .ok (.iload_n 1, 1) := by decide +kernel
theorem dX9_ask_22 : decode cX9_ask 22 = .ok (.aaload, 1) := by decide +kernel
theorem dX9_ask_23 : decode cX9_ask 23 = .ok (.astore_n 3, 1) := by decide +kernel
theorem dX9_ask_24 : decode cX9_ask 24 = .ok (.aload_n 3, 1) := by decide +kernel
theorem dX9_ask_25 : decode cX9_ask 25 = .ok (.getfield 306, 3) := by decide +kernel
theorem dX9_ask_28 : decode cX9_ask 28 = .ok (.ifCond .ne 7, 3) := by decide +kernel
theorem dX9_ask_31 : decode cX9_ask 31 = .ok (.ldc_w 276, 3) := by decide +kernel
theorem dX9_ask_34 : decode cX9_ask 34 = .ok (.ireturn, 1) := by decide +kernel
theorem dX9_ask_35 : decode cX9_ask 35 = .ok (.aload_n 3, 1) := by decide +kernel
theorem dX9_ask_36 : decode cX9_ask 36 = .ok (.getfield 306, 3) := by decide +kernel
theorem dX9_ask_39 : decode cX9_ask 39 = .ok (.iconst 1, 1) := by decide +kernel
theorem dX9_ask_40 : decode cX9_ask 40 = .ok (.if_icmp .ne 14, 3) := by decide +kernel
theorem dX9_ask_43 : decode cX9_ask 43 = .ok (.aload_n 3, 1) := by decide +kernel
theorem dX9_ask_44 : decode cX9_ask 44 = .ok (.getfield 309, 3) := by decide +kernel
theorem dX9_ask_47 : decode cX9_ask 47 = .ok (.iload_n 2, 1) := by decide +kernel
theorem dX9_ask_48 : decode cX9_ask 48 = .ok (.invokestatic 119, 3) := by decide +kernel
theorem dX9_ask_51 : decode cX9_ask 51 = .ok (.ifCond .ne 6, 3) := by decide +kernel
theorem dX9_ask_54 : decode cX9_ask 54 = .ok (.ldc 123, 2) := by decide +kernel
theorem dX9_ask_56 : decode cX9_ask 56 = .ok (.ireturn, 1) := by decide +kernel
theorem dX9_ask_57 : decode cX9_ask 57 = .ok (.aload_n 3, 1) := by decide +kernel
theorem dX9_ask_58 : decode cX9_ask 58 = .ok (.getfield 309, 3) := by decide +kernel
theorem dX9_ask_61 : decode cX9_ask 61 = .ok (.aload_n 3, 1) := by decide +kernel
theorem dX9_ask_62 : decode cX9_ask 62 = .ok (.getfield 312, 3) := by decide +kernel
theorem dX9_ask_65 : decode cX9_ask 65 = .ok (.aload_n 3, 1) := by decide +kernel
theorem dX9_ask_66 : decode cX9_ask 66 = .ok (.getfield 315, 3) := by decide +kernel
theorem dX9_ask_69 : decode cX9_ask 69 = .ok (.invokestatic 116, 3) := by decide +kernel
theorem dX9_ask_72 : decode cX9_ask 72 = .ok (.ireturn, 1) := by decide +kernel
theorem dX9_item_0 : decode cX9_item 0 = .ok (.iload_n 1, 1) := by decide +kernel
theorem dX9_item_1 : decode cX9_item 1 = .ok (.invokestatic 303, 3) := by decide +kernel
theorem dX9_item_4 : decode cX9_item 4 = .ok (.ifCond .ne 6, 3) := by decide +kernel
theorem dX9_item_7 : decode cX9_item 7 = .ok (.ldc 85, 2) := by decide +kernel
theorem dX9_item_9 : decode cX9_item 9 = .ok (.ireturn, 1) := by decide +kernel
theorem dX9_item_10 : decode cX9_item 10 = .ok (.aload_n 0, 1) := by decide +kernel
theorem dX9_item_11 : decode cX9_item 11 = .ok (.getfield 63, 3) := by decide +kernel
theorem dX9_item_14 : decode cX9_item 14 = .ok (.iload_n 1, 1) := by decide +kernel
theorem dX9_item_15 : decode cX9_item 15 = .ok (.aaload, 1) := by decide +kernel
theorem dX9_item_16 : decode cX9_item 16 = .ok (.astore_n 3, 1) := by decide +kernel
theorem dX9_item_17 : decode cX9_item 17 = .ok (.aload_n 3, 1) := by decide +kernel
theorem dX9_item_18 : decode cX9_item 18 = .ok (.getfield 306, 3) := by decide +kernel
theorem dX9_item_21 : decode cX9_item 21 = .ok (.ifCond .ne 7, 3) := by decide +kernel
theorem dX9_item_24 : decode cX9_item 24 = .ok (.ldc_w 276, 3) := by decide +kernel
theorem dX9_item_27 : decode cX9_item 27 = .ok (.ireturn, 1) := by decide +kernel
theorem dX9_item_28 : decode cX9_item 28 = .ok (.aload_n 3, 1) := by decide +kernel
theorem dX9_item_29 : decode cX9_item 29 = .ok (.getfield 306, 3) := by decide +kernel
theorem dX9_item_32 : decode cX9_item 32 = .ok (.iconst 2, 1) := by decide +kernel
theorem dX9_item_33 : decode cX9_item 33 = .ok (.if_icmp .eq 6, 3) := by decide +kernel
theorem dX9_item_36 : decode cX9_item 36 = .ok (.ldc 123, 2) := by decide +kernel
theorem dX9_item_38 : decode cX9_item 38 = .ok (.ireturn, 1) := by decide +kernel
theorem dX9_item_39 : decode cX9_item 39 = .ok (.aload_n 3, 1) := by decide +kernel
theorem dX9_item_40 : decode cX9_item 40 = .ok (.getfield 318, 3) := by decide +kernel
theorem dX9_item_43 : decode cX9_item 43 = .ok (.iload_n 2, 1) := by decide +kernel
theorem dX9_item_44 : decode cX9_item 44 = .ok (.invokevirtual 277, 3) := by decide +kernel
theorem dX9_item_47 : decode cX9_item 47 = .ok (.ifCond .ne 7, 3) := by decide +kernel
theorem dX9_item_50 : decode cX9_item 50 = .ok (.ldc_w 280, 3) := by decide +kernel
theorem dX9_item_53 : decode cX9_item 53 = .ok (.ireturn, 1) := by decide +kernel
theorem dX9_item_54 : decode cX9_item 54 = .ok (.aload_n 3, 1) := by decide +kernel
theorem dX9_item_55 : decode cX9_item 55 = .ok (.getfield 318, 3) := by decide +kernel
theorem dX9_item_58 : decode cX9_item 58 = .ok (.iload_n 2, 1) := by decide +kernel
theorem dX9_item_59 : decode cX9_item 59 = .ok (.invokevirtual 288, 3) := by decide +kernel
theorem dX9_item_62 : decode cX9_item 62 = .ok (.ifCond .eq 15, 3) := by decide +kernel
theorem dX9_item_65 : decode cX9_item 65 = .ok (.aload_n 3, 1) := by decide +kernel
theorem dX9_item_66 : decode cX9_item 66 = .ok (.getfield 318, 3) := by decide +kernel
theorem dX9_item_69 : decode cX9_item 69 = .ok (.getfield 281, 3) := by decide +kernel
theorem dX9_item_72 : decode cX9_item 72 = .ok (.iload_n 2, 1) := by decide +kernel
theorem dX9_item_73 : decode cX9_item 73 = .ok (.iaload, 1) := by decide +kernel
theorem dX9_item_74 : decode cX9_item 74 = .ok (.goto 5, 3) := by decide +kernel
theorem dX9_item_77 : decode cX9_item 77 = .ok (.ldc 123, 2) := by decide +kernel
theorem dX9_item_79 : decode cX9_item 79 = .ok (.ireturn, 1) := by decide +kernel
theorem dX9_rest_0 : decode cX9_rest 0 = .ok (.iload_n 1, 1) := by decide +kernel
theorem dX9_rest_1 : decode cX9_rest 1 = .ok (.invokestatic 303, 3) := by decide +kernel
theorem dX9_rest_4 : decode cX9_rest 4 = .ok (.ifCond .ne 6, 3) := by decide +kernel
theorem dX9_rest_7 : decode cX9_rest 7 = .ok (.ldc 85, 2) := by decide +kernel
theorem dX9_rest_9 : decode cX9_rest 9 = .ok (.ireturn, 1) := by decide +kernel
theorem dX9_rest_10 : decode cX9_rest 10 = .ok (.aload_n 0, 1) := by decide +kernel
theorem dX9_rest_11 : decode cX9_rest 11 = .ok (.getfield 63, 3) := by decide +kernel
theorem dX9_rest_14 : decode cX9_rest 14 = .ok (.iload_n 1, 1) := by decide +kernel
theorem dX9_rest_15 : decode cX9_rest 15 = .ok (.aaload, 1) := by decide +kernel
theorem dX9_rest_16 : decode cX9_rest 16 = .ok (.astore_n 3, 1) := by decide +kernel
theorem dX9_rest_17 : decode cX9_rest 17 = .ok (.aload_n 3, 1) := by decide +kernel
theorem dX9_rest_18 : decode cX9_rest 18 = .ok (.getfield 306, 3) := by decide +kernel
theorem dX9_rest_21 : decode cX9_rest 21 = .ok (.ifCond .ne 7, 3) := by decide +kernel
theorem dX9_rest_24 : decode cX9_rest 24 = .ok (.ldc_w 276, 3) := by decide +kernel
theorem dX9_rest_27 : decode cX9_rest 27 = .ok (.ireturn, 1) := by decide +kernel
theorem dX9_rest_28 : decode cX9_rest 28 = .ok (.aload_n 3, 1) := by decide +kernel
theorem dX9_rest_29 : decode cX9_rest 29 = .ok (.getfield 306, 3) := by decide +kernel
theorem dX9_rest_32 : decode cX9_rest 32 = .ok (.iconst 3, 1) := by decide +kernel
theorem dX9_rest_33 : decode cX9_rest 33 = .ok (.if_icmp .eq 6, 3) := by decide +kernel
theorem dX9_rest_36 : decode cX9_rest 36 = .ok (.ldc 123, 2) := by decide +kernel
theorem dX9_rest_38 : decode cX9_rest 38 = .ok (.ireturn, 1) := by decide +kernel
theorem dX9_rest_39 : decode cX9_rest 39 = .ok (.iload_n 2, 1) := by decide +kernel
theorem dX9_rest_40 : decode cX9_rest 40 = .ok (.ifCond .ne 8, 3) := by decide +kernel
theorem dX9_rest_43 : decode cX9_rest 43 = .ok (.ldc 169, 2) := by decide +kernel
theorem dX9_rest_45 : decode cX9_rest 45 = .ok (.goto 9, 3) := by decide +kernel
theorem dX9_rest_48 : decode cX9_rest 48 = .ok (.aload_n 3, 1) := by decide +kernel
theorem dX9_rest_49 : decode cX9_rest 49 = .ok (.getfield 325, 3) := by decide +kernel
theorem dX9_rest_52 : decode cX9_rest 52 = .ok (.iload_n 2, 1) := by decide +kernel
theorem dX9_rest_53 : decode cX9_rest 53 = .ok (.irem, 1) := by decide +kernel
theorem dX9_rest_54 : decode cX9_rest 54 = .ok (.ireturn, 1) := by decide +kernel
theorem dX9_tell_0 : decode cX9_tell 0 = .ok (.aload_n 0, 1) := by decide +kernel
theorem dX9_tell_1 : decode cX9_tell 1 = .ok (.getfield 328, 3) := by decide +kernel
theorem dX9_tell_4 : decode cX9_tell 4 = .ok (.bipush 60, 2) := by decide +kernel
theorem dX9_tell_6 : decode cX9_tell 6 = .ok (.if_icmp .lt 6, 3) := by decide +kernel
theorem dX9_tell_9 : decode cX9_tell 9 = .ok (.ldc 170, 2) := by decide +kernel
theorem dX9_tell_11 : decode cX9_tell 11 = .ok (.ireturn, 1) := by decide +kernel
theorem dX9_tell_12 : decode cX9_tell 12 = .ok (.aload_n 0, 1) := by decide +kernel
theorem dX9_tell_13 : decode cX9_tell 13 = .ok (.getfield 68, 3) := by decide +kernel
theorem dX9_tell_16 : decode cX9_tell 16 = .ok (.aload_n 0, 1) := by decide +kernel
theorem dX9_tell_17 : decode cX9_tell 17 = .ok (.getfield 328, 3) := by decide +kernel
theorem dX9_tell_20 : decode cX9_tell 20 = .ok (.iload_n 1, 1) := by decide +kernel
theorem dX9_tell_21 : decode cX9_tell 21 = .ok (.iastore, 1) := by decide +kernel
theorem dX9_tell_22 : decode cX9_tell 22 = .ok (.aload_n 0, 1) := by decide +kernel
theorem dX9_tell_23 : decode cX9_tell 23 = .ok (.dup, 1) := by decide +kernel
theorem dX9_tell_24 : decode cX9_tell 24 = .ok (.getfield 328, 3) := by decide +kernel
theorem dX9_tell_27 : decode cX9_tell 27 = .ok (.iconst 1, 1) := by decide +kernel
theorem dX9_tell_28 : decode cX9_tell 28 = .ok (.iadd, 1) := by decide +kernel
theorem dX9_tell_29 : decode cX9_tell 29 = .ok (.putfield 328, 3) := by decide +kernel
theorem dX9_tell_32 : decode cX9_tell 32 = .ok (.aload_n 0, 1) := by decide +kernel
theorem dX9_tell_33 : decode cX9_tell 33 = .ok (.getfield 328, 3) := by decide +kernel
theorem dX9_tell_36 : decode cX9_tell 36 = .ok (.ireturn, 1) := by decide +kernel
theorem dX9_check_0 : decode cX9_check 0 = .ok (.aload_n 0, 1) := by decide +kernel
theorem dX9_check_1 : decode cX9_check 1 = .ok (.getfield 328, 3) := by decide +kernel
theorem dX9_check_4 : decode cX9_check 4 = .ok (.istore_n 2, 1) := by decide +kernel
theorem dX9_check_5 : decode cX9_check 5 = .ok (.aload_n 0, 1) := by decide +kernel
theorem dX9_check_6 : decode cX9_check 6 = .ok (.iconst 0, 1) := by decide +kernel
theorem dX9_check_7 : decode cX9_check 7 = .ok (.putfield 328, 3) := by decide +kernel
theorem dX9_check_10 : decode cX9_check 10 = .ok (.iload_n 1, 1) := by decide +kernel
theorem dX9_check_11 : decode cX9_check 11 = .ok (.iconst 1, 1) := by decide +kernel
theorem dX9_check_12 : decode cX9_check 12 = .ok (.bipush 30, 2) := by decide +kernel
theorem dX9_check_14 : decode cX9_check 14 = .ok (.invokestatic 81, 3) := by decide +kernel
theorem dX9_check_17 : decode cX9_check 17 = .ok (.ifCond .ne 6, 3) := by decide +kernel
theorem dX9_check_20 : decode cX9_check 20 = .ok (.ldc 85, 2) := by decide +kernel
theorem dX9_check_22 : decode cX9_check 22 = .ok (.ireturn, 1) := by decide +kernel
theorem dX9_check_23 : decode cX9_check 23 = .ok (.aload_n 0, 1) := by decide +kernel
theorem dX9_check_24 : decode cX9_check 24 = .ok (.getfield 331, 3) := by decide +kernel
theorem dX9_check_27 : decode cX9_check 27 = .ok (.ifCond .ne 6, 3) := by decide +kernel
theorem dX9_check_30 : decode cX9_check 30 = .ok (.ldc 169, 2) := by decide +kernel
theorem dX9_check_32 : decode cX9_check 32 = .ok (.ireturn, 1) := by decide +kernel
theorem dX9_check_33 : decode cX9_check 33 = .ok (.aload_n 0, 1) := by decide +kernel
theorem dX9_check_34 : decode cX9_check 34 = .ok (.iload_n 2, 1) := by decide +kernel
theorem dX9_check_35 : decode cX9_check 35 = .ok (.iload_n 1, 1) := by decide +kernel
theorem dX9_check_36 : decode cX9_check 36 = .ok (.invokevirtual 335, 3) := by decide +kernel
theorem dX9_check_39 : decode cX9_check 39 = .ok (.istore_n 3, 1) := by decide +kernel
theorem dX9_check_40 : decode cX9_check 40 = .ok (.iload_n 3, 1) := by decide +kernel
theorem dX9_check_41 : decode cX9_check 41 = .ok (.iload_n 2, 1) := by decide +kernel
theorem dX9_check_42 : decode cX9_check 42 = .ok (.if_icmp .ne 14, 3) := by decide +kernel
theorem dX9_check_45 : decode cX9_check 45 = .ok (.iload_n 3, 1) := by decide +kernel
theorem dX9_check_46 : decode cX9_check 46 = .ok (.iconst 2, 1) := by decide +kernel
theorem dX9_check_47 : decode cX9_check 47 = .ok (.iload_n 1, 1) := by decide +kernel
theorem dX9_check_48 : decode cX9_check 48 = .ok (.imul, 1) := by decide +kernel
theorem dX9_check_49 : decode cX9_check 49 = .ok (.if_icmp .ne 7, 3) := by decide +kernel
theorem dX9_check_52 : decode cX9_check 52 = .ok (.iconst 0, 1) := by decide +kernel
theorem dX9_check_53 : decode cX9_check 53 = .ok (.goto 6, 3) := by decide +kernel
theorem dX9_check_56 : decode cX9_check 56 = .ok (.iconst 1, 1) := by decide +kernel
theorem dX9_check_57 : decode cX9_check 57 = .ok (.iload_n 3, 1) := by decide +kernel
theorem dX9_check_58 : decode cX9_check 58 = .ok (.iadd, 1) := by decide +kernel
theorem dX9_check_59 : decode cX9_check 59 = .ok (.ireturn, 1) := by decide +kernel
theorem dX9_keep_0 : decode cX9_keep 0 = .ok (.aload_n 0, 1) := by decide +kernel
theorem dX9_keep_1 : decode cX9_keep 1 = .ok (.getfield 25, 3) := by decide +kernel
theorem dX9_keep_4 : decode cX9_keep 4 = .ok (.aload_n 0, 1) := by decide +kernel
theorem dX9_keep_5 : decode cX9_keep 5 = .ok (.getfield 21, 3) := by decide +kernel
theorem dX9_keep_8 : decode cX9_keep 8 = .ok (.invokevirtual 146, 3) := by decide +kernel
theorem dX9_keep_11 : decode cX9_keep 11 = .ok (.aload_n 0, 1) := by decide +kernel
theorem dX9_keep_12 : decode cX9_keep 12 = .ok (.iconst 1, 1) := by decide +kernel
theorem dX9_keep_13 : decode cX9_keep 13 = .ok (.putfield 331, 3) := by decide +kernel
theorem dX9_keep_16 : decode cX9_keep 16 = .ok (.aload_n 0, 1) := by decide +kernel
theorem dX9_keep_17 : decode cX9_keep 17 = .ok (.getfield 21, 3) := by decide +kernel
theorem dX9_keep_20 : decode cX9_keep 20 = .ok (.invokevirtual 137, 3) := by decide +kernel
theorem dX9_keep_23 : decode cX9_keep 23 = .ok (.ireturn, 1) := by decide +kernel
theorem dX9_back_0 : decode cX9_back 0 = .ok (.aload_n 0, 1) := by decide +kernel
theorem dX9_back_1 : decode cX9_back 1 = .ok (.getfield 331, 3) := by decide +kernel
theorem dX9_back_4 : decode cX9_back 4 = .ok (.ifCond .ne 6, 3) := by decide +kernel
theorem dX9_back_7 : decode cX9_back 7 = .ok (.ldc 169, 2) := by decide +kernel
theorem dX9_back_9 : decode cX9_back 9 = .ok (.ireturn, 1) := by decide +kernel
theorem dX9_back_10 : decode cX9_back 10 = .ok (.aload_n 0, 1) := by decide +kernel
theorem dX9_back_11 : decode cX9_back 11 = .ok (.getfield 21, 3) := by decide +kernel
theorem dX9_back_14 : decode cX9_back 14 = .ok (.aload_n 0, 1) := by decide +kernel
theorem dX9_back_15 : decode cX9_back 15 = .ok (.getfield 25, 3) := by decide +kernel
theorem dX9_back_18 : decode cX9_back 18 = .ok (.invokevirtual 146, 3) := by decide +kernel
theorem dX9_back_21 : decode cX9_back 21 = .ok (.aload_n 0, 1) := by decide +kernel
theorem dX9_back_22 : decode cX9_back 22 = .ok (.getfield 21, 3) := by decide +kernel
theorem dX9_back_25 : decode cX9_back 25 = .ok (.invokevirtual 137, 3) := by decide +kernel
theorem dX9_back_28 : decode cX9_back 28 = .ok (.ireturn, 1) := by decide +kernel
theorem dX9_count_0 : decode cX9_count 0 = .ok (.iload_n 1, 1) := by decide +kernel
theorem dX9_count_1 : decode cX9_count 1 = .ok (.tableswitch 132 0 9 #[55, 63, 71, 79, 87, 95, 103, 111, 116, 124], 55) := by decide +kernel
theorem dX9_count_56 : decode cX9_count 56 = .ok (.aload_n 0, 1) := by decide +kernel
theorem dX9_count_57 : decode cX9_count 57 = .ok (.getfield 21, 3) := by decide +kernel
theorem dX9_count_60 : decode cX9_count 60 = .ok (.invokevirtual 137, 3) := by decide +kernel
theorem dX9_count_63 : decode cX9_count 63 = .ok (.ireturn, 1) := by decide +kernel
theorem dX9_count_64 : decode cX9_count 64 = .ok (.aload_n 0, 1) := by decide +kernel
theorem dX9_count_65 : decode cX9_count 65 = .ok (.getfield 21, 3) := by decide +kernel
theorem dX9_count_68 : decode cX9_count 68 = .ok (.getfield 338, 3) := by decide +kernel
theorem dX9_count_71 : decode cX9_count 71 = .ok (.ireturn, 1) := by decide +kernel
theorem dX9_count_72 : decode cX9_count 72 = .ok (.aload_n 0, 1) := by decide +kernel
theorem dX9_count_73 : decode cX9_count 73 = .ok (.getfield 21, 3) := by decide +kernel
theorem dX9_count_76 : decode cX9_count 76 = .ok (.getfield 124, 3) := by decide +kernel
theorem dX9_count_79 : decode cX9_count 79 = .ok (.ireturn, 1) := by decide +kernel
theorem dX9_count_80 : decode cX9_count 80 = .ok (.aload_n 0, 1) := by decide +kernel
theorem dX9_count_81 : decode cX9_count 81 = .ok (.getfield 21, 3) := by decide +kernel
theorem dX9_count_84 : decode cX9_count 84 = .ok (.getfield 128, 3) := by decide +kernel
theorem dX9_count_87 : decode cX9_count 87 = .ok (.ireturn, 1) := by decide +kernel
theorem dX9_count_88 : decode cX9_count 88 = .ok (.aload_n 0, 1) := by decide +kernel
theorem dX9_count_89 : decode cX9_count 89 = .ok (.getfield 21, 3) := by decide +kernel
theorem dX9_count_92 : decode cX9_count 92 = .ok (.getfield 131, 3) := by decide +kernel
theorem dX9_count_95 : decode cX9_count 95 = .ok (.ireturn, 1) := by decide +kernel
theorem dX9_count_96 : decode cX9_count 96 = .ok (.aload_n 0, 1) := by decide +kernel
theorem dX9_count_97 : decode cX9_count 97 = .ok (.getfield 21, 3) := by decide +kernel
theorem dX9_count_100 : decode cX9_count 100 = .ok (.getfield 160, 3) := by decide +kernel
theorem dX9_count_103 : decode cX9_count 103 = .ok (.ireturn, 1) := by decide +kernel
theorem dX9_count_104 : decode cX9_count 104 = .ok (.aload_n 0, 1) := by decide +kernel
theorem dX9_count_105 : decode cX9_count 105 = .ok (.getfield 21, 3) := by decide +kernel
theorem dX9_count_108 : decode cX9_count 108 = .ok (.getfield 240, 3) := by decide +kernel
theorem dX9_count_111 : decode cX9_count 111 = .ok (.ireturn, 1) := by decide +kernel
theorem dX9_count_112 : decode cX9_count 112 = .ok (.aload_n 0, 1) := by decide +kernel
theorem dX9_count_113 : decode cX9_count 113 = .ok (.getfield 328, 3) := by decide +kernel
theorem dX9_count_116 : decode cX9_count 116 = .ok (.ireturn, 1) := by decide +kernel
theorem dX9_count_117 : decode cX9_count 117 = .ok (.aload_n 0, 1) := by decide +kernel
theorem dX9_count_118 : decode cX9_count 118 = .ok (.getfield 41, 3) := by decide +kernel
theorem dX9_count_121 : decode cX9_count 121 = .ok (.getfield 234, 3) := by decide +kernel
theorem dX9_count_124 : decode cX9_count 124 = .ok (.ireturn, 1) := by decide +kernel
theorem dX9_count_125 : decode cX9_count 125 = .ok (.aload_n 0, 1) := by decide +kernel
theorem dX9_count_126 : decode cX9_count 126 = .ok (.getfield 21, 3) := by decide +kernel
theorem dX9_count_129 : decode cX9_count 129 = .ok (.getfield 140, 3) := by decide +kernel
theorem dX9_count_132 : decode cX9_count 132 = .ok (.ireturn, 1) := by decide +kernel
theorem dX9_count_133 : decode cX9_count 133 = .ok (.ldc 85, 2) := by decide +kernel
theorem dX9_count_135 : decode cX9_count 135 = .ok (.ireturn, 1) := by decide +kernel
theorem dX9_rightAhead_0 : decode cX9_rightAhead 0 = .ok (.aload_n 0, 1) := by decide +kernel
theorem dX9_rightAhead_1 : decode cX9_rightAhead 1 = .ok (.getfield 28, 3) := by decide +kernel
theorem dX9_rightAhead_4 : decode cX9_rightAhead 4 = .ok (.aload_n 0, 1) := by decide +kernel
theorem dX9_rightAhead_5 : decode cX9_rightAhead 5 = .ok (.getfield 25, 3) := by decide +kernel
theorem dX9_rightAhead_8 : decode cX9_rightAhead 8 = .ok (.invokevirtual 146, 3) := by decide +kernel
theorem dX9_rightAhead_11 : decode cX9_rightAhead 11 = .ok (.aload_n 0, 1) := by decide +kernel
theorem dX9_rightAhead_12 : decode cX9_rightAhead 12 = .ok (.getfield 28, 3) := by decide +kernel
theorem dX9_rightAhead_15 : decode cX9_rightAhead 15 = .ok (.invokevirtual 153, 3) := by decide +kernel
theorem dX9_rightAhead_18 : decode cX9_rightAhead 18 = .ok (.iconst 0, 1) := by decide +kernel
theorem dX9_rightAhead_19 : decode cX9_rightAhead 19 = .ok (.istore_n 3, 1) := by decide +kernel
theorem dX9_rightAhead_20 : decode cX9_rightAhead 20 = .ok (.iload_n 3, 1) := by decide +kernel
theorem dX9_rightAhead_21 : decode cX9_rightAhead 21 = .ok (.iload_n 2, 1) := by decide +kernel
theorem dX9_rightAhead_22 : decode cX9_rightAhead 22 = .ok (.if_icmp .ge 76, 3) := by decide +kernel
theorem dX9_rightAhead_25 : decode cX9_rightAhead 25 = .ok (.aload_n 0, 1) := by decide +kernel
theorem dX9_rightAhead_26 : decode cX9_rightAhead 26 = .ok (.getfield 28, 3) := by decide +kernel
theorem dX9_rightAhead_29 : decode cX9_rightAhead 29 = .ok (.invokevirtual 156, 3) := by decide +kernel
theorem dX9_rightAhead_32 : decode cX9_rightAhead 32 = .ok (.istore 4, 2) := by decide +kernel
theorem dX9_rightAhead_34 : decode cX9_rightAhead 34 = .ok (.iconst 2, 1) := by decide +kernel
theorem dX9_rightAhead_35 : decode cX9_rightAhead 35 = .ok (.iload_n 3, 1) := by decide +kernel
theorem dX9_rightAhead_36 : decode cX9_rightAhead 36 = .ok (.imul, 1) := by decide +kernel
theorem dX9_rightAhead_37 : decode cX9_rightAhead 37 = .ok (.istore 5, 2) := by decide +kernel
theorem dX9_rightAhead_39 : decode cX9_rightAhead 39 = .ok (.iload 5, 2) := by decide +kernel
theorem dX9_rightAhead_41 : decode cX9_rightAhead 41 = .ok (.iload_n 1, 1) := by decide +kernel
theorem dX9_rightAhead_42 : decode cX9_rightAhead 42 = .ok (.if_icmp .ge 15, 3) := by decide +kernel
theorem dX9_rightAhead_45 : decode cX9_rightAhead 45 = .ok (.aload_n 0, 1) := by decide +kernel
theorem dX9_rightAhead_46 : decode cX9_rightAhead 46 = .ok (.getfield 68, 3) := by decide +kernel
theorem dX9_rightAhead_49 : decode cX9_rightAhead 49 = .ok (.iload 5, 2) := by decide +kernel
theorem dX9_rightAhead_51 : decode cX9_rightAhead 51 = .ok (.iaload, 1) := by decide +kernel
theorem dX9_rightAhead_52 : decode cX9_rightAhead 52 = .ok (.iload 4, 2) := by decide +kernel
theorem dX9_rightAhead_54 : decode cX9_rightAhead 54 = .ok (.if_icmp .eq 6, 3) := by decide +kernel
theorem dX9_rightAhead_57 : decode cX9_rightAhead 57 = .ok (.iload 5, 2) := by decide +kernel
theorem dX9_rightAhead_59 : decode cX9_rightAhead 59 = .ok (.ireturn, 1) := by decide +kernel
theorem dX9_rightAhead_60 : decode cX9_rightAhead 60 = .ok (.iload 5, 2) := by decide +kernel
theorem dX9_rightAhead_62 : decode cX9_rightAhead 62 = .ok (.iconst 1, 1) := by decide +kernel
theorem dX9_rightAhead_63 : decode cX9_rightAhead 63 = .ok (.iadd, 1) := by decide +kernel
theorem dX9_rightAhead_64 : decode cX9_rightAhead 64 = .ok (.iload_n 1, 1) := by decide +kernel
theorem dX9_rightAhead_65 : decode cX9_rightAhead 65 = .ok (.if_icmp .ge 22, 3) := by decide +kernel
theorem dX9_rightAhead_68 : decode cX9_rightAhead 68 = .ok (.aload_n 0, 1) := by decide +kernel
theorem dX9_rightAhead_69 : decode cX9_rightAhead 69 = .ok (.getfield 68, 3) := by decide +kernel
theorem dX9_rightAhead_72 : decode cX9_rightAhead 72 = .ok (.iload 5, 2) := by decide +kernel
theorem dX9_rightAhead_74 : decode cX9_rightAhead 74 = .ok (.iconst 1, 1) := by decide +kernel
theorem dX9_rightAhead_75 : decode cX9_rightAhead 75 = .ok (.iadd, 1) := by decide +kernel
theorem dX9_rightAhead_76 : decode cX9_rightAhead 76 = .ok (.iaload, 1) := by decide +kernel
theorem dX9_rightAhead_77 : decode cX9_rightAhead 77 = .ok (.aload_n 0, 1) := by decide +kernel
theorem dX9_rightAhead_78 : decode cX9_rightAhead 78 = .ok (.getfield 28, 3) := by decide +kernel
theorem dX9_rightAhead_81 : decode cX9_rightAhead 81 = .ok (.invokevirtual 137, 3) := by decide +kernel
theorem dX9_rightAhead_84 : decode cX9_rightAhead 84 = .ok (.if_icmp .eq 8, 3) := by decide +kernel
theorem dX9_rightAhead_87 : decode cX9_rightAhead 87 = .ok (.iload 5, 2) := by decide +kernel
theorem dX9_rightAhead_89 : decode cX9_rightAhead 89 = .ok (.iconst 1, 1) := by decide +kernel
theorem dX9_rightAhead_90 : decode cX9_rightAhead 90 = .ok (.iadd, 1) := by decide +kernel
theorem dX9_rightAhead_91 : decode cX9_rightAhead 91 = .ok (.ireturn, 1) := by decide +kernel
theorem dX9_rightAhead_92 : decode cX9_rightAhead 92 = .ok (.iinc 3 1, 3) := by decide +kernel
theorem dX9_rightAhead_95 : decode cX9_rightAhead 95 = .ok (.goto (-75), 3) := by decide +kernel
theorem dX9_rightAhead_98 : decode cX9_rightAhead 98 = .ok (.iconst 2, 1) := by decide +kernel
theorem dX9_rightAhead_99 : decode cX9_rightAhead 99 = .ok (.iload_n 2, 1) := by decide +kernel
theorem dX9_rightAhead_100 : decode cX9_rightAhead 100 = .ok (.imul, 1) := by decide +kernel
theorem dX9_rightAhead_101 : decode cX9_rightAhead 101 = .ok (.ireturn, 1) := by decide +kernel
theorem dX9_isWithin_0 : decode cX9_isWithin 0 = .ok (.iload_n 0, 1) := by decide +kernel
theorem dX9_isWithin_1 : decode cX9_isWithin 1 = .ok (.iload_n 1, 1) := by decide +kernel
theorem dX9_isWithin_2 : decode cX9_isWithin 2 = .ok (.if_icmp .lt 12, 3) := by decide +kernel
theorem dX9_isWithin_5 : decode cX9_isWithin 5 = .ok (.iload_n 0, 1) := by decide +kernel
theorem dX9_isWithin_6 : decode cX9_isWithin 6 = .ok (.iload_n 2, 1) := by decide +kernel
theorem dX9_isWithin_7 : decode cX9_isWithin 7 = .ok (.if_icmp .gt 7, 3) := by decide +kernel
theorem dX9_isWithin_10 : decode cX9_isWithin 10 = .ok (.iconst 1, 1) := by decide +kernel
theorem dX9_isWithin_11 : decode cX9_isWithin 11 = .ok (.goto 4, 3) := by decide +kernel
theorem dX9_isWithin_14 : decode cX9_isWithin 14 = .ok (.iconst 0, 1) := by decide +kernel
theorem dX9_isWithin_15 : decode cX9_isWithin 15 = .ok (.ireturn, 1) := by decide +kernel
theorem dX9_heldWithin_0 : decode cX9_heldWithin 0 = .ok (.iload_n 1, 1) := by decide +kernel
theorem dX9_heldWithin_1 : decode cX9_heldWithin 1 = .ok (.iload_n 2, 1) := by decide +kernel
theorem dX9_heldWithin_2 : decode cX9_heldWithin 2 = .ok (.iload_n 0, 1) := by decide +kernel
theorem dX9_heldWithin_3 : decode cX9_heldWithin 3 = .ok (.invokestatic 341, 3) := by decide +kernel
theorem dX9_heldWithin_6 : decode cX9_heldWithin 6 = .ok (.invokestatic 346, 3) := by decide +kernel
theorem dX9_heldWithin_9 : decode cX9_heldWithin 9 = .ok (.ireturn, 1) := by decide +kernel
theorem dX9_isCell_0 : decode cX9_isCell 0 = .ok (.iload_n 0, 1) := by decide +kernel
theorem dX9_isCell_1 : decode cX9_isCell 1 = .ok (.iconst 0, 1) := by decide +kernel
theorem dX9_isCell_2 : decode cX9_isCell 2 = .ok (.bipush 29, 2) := by decide +kernel
theorem dX9_isCell_4 : decode cX9_isCell 4 = .ok (.invokestatic 81, 3) := by decide +kernel
theorem dX9_isCell_7 : decode cX9_isCell 7 = .ok (.ireturn, 1) := by decide +kernel
theorem dX9_isSheet_0 : decode cX9_isSheet 0 = .ok (.iload_n 0, 1) := by decide +kernel
theorem dX9_isSheet_1 : decode cX9_isSheet 1 = .ok (.iconst 0, 1) := by decide +kernel
theorem dX9_isSheet_2 : decode cX9_isSheet 2 = .ok (.iconst 3, 1) := by decide +kernel
theorem dX9_isSheet_3 : decode cX9_isSheet 3 = .ok (.invokestatic 81, 3) := by decide +kernel
theorem dX9_isSheet_6 : decode cX9_isSheet 6 = .ok (.ireturn, 1) := by decide +kernel
theorem dX9_isSlot_0 : decode cX9_isSlot 0 = .ok (.iload_n 0, 1) := by decide +kernel
theorem dX9_isSlot_1 : decode cX9_isSlot 1 = .ok (.iconst 0, 1) := by decide +kernel
theorem dX9_isSlot_2 : decode cX9_isSlot 2 = .ok (.iconst 4, 1) := by decide +kernel
theorem dX9_isSlot_3 : decode cX9_isSlot 3 = .ok (.invokestatic 81, 3) := by decide +kernel
theorem dX9_isSlot_6 : decode cX9_isSlot 6 = .ok (.ireturn, 1) := by decide +kernel
theorem dX9_neighbour_0 : decode cX9_neighbour 0 = .ok (.iload_n 0, 1) := by decide +kernel
theorem dX9_neighbour_1 : decode cX9_neighbour 1 = .ok (.bipush 6, 2) := by decide +kernel
theorem dX9_neighbour_3 : decode cX9_neighbour 3 = .ok (.irem, 1) := by decide +kernel
theorem dX9_neighbour_4 : decode cX9_neighbour 4 = .ok (.istore_n 2, 1) := by decide +kernel
theorem dX9_neighbour_5 : decode cX9_neighbour 5 = .ok (.iload_n 1, 1) := by decide +kernel
theorem dX9_neighbour_6 : decode cX9_neighbour 6 = .ok (.tableswitch 72 0 2 #[26, 42, 56], 26) := by decide +kernel
theorem dX9_neighbour_32 : decode cX9_neighbour 32 = .ok (.iload_n 0, 1) := by decide +kernel
theorem dX9_neighbour_33 : decode cX9_neighbour 33 = .ok (.bipush 24, 2) := by decide +kernel
theorem dX9_neighbour_35 : decode cX9_neighbour 35 = .ok (.if_icmp .ge 10, 3) := by decide +kernel
theorem dX9_neighbour_38 : decode cX9_neighbour 38 = .ok (.iload_n 0, 1) := by decide +kernel
theorem dX9_neighbour_39 : decode cX9_neighbour 39 = .ok (.bipush 6, 2) := by decide +kernel
theorem dX9_neighbour_41 : decode cX9_neighbour 41 = .ok (.iadd, 1) := by decide +kernel
theorem dX9_neighbour_42 : decode cX9_neighbour 42 = .ok (.goto 5, 3) := by decide +kernel
theorem dX9_neighbour_45 : decode cX9_neighbour 45 = .ok (.ldc 159, 2) := by decide +kernel
theorem dX9_neighbour_47 : decode cX9_neighbour 47 = .ok (.ireturn, 1) := by decide +kernel
theorem dX9_neighbour_48 : decode cX9_neighbour 48 = .ok (.iload_n 2, 1) := by decide +kernel
theorem dX9_neighbour_49 : decode cX9_neighbour 49 = .ok (.iconst 5, 1) := by decide +kernel
theorem dX9_neighbour_50 : decode cX9_neighbour 50 = .ok (.if_icmp .ge 9, 3) := by decide +kernel
theorem dX9_neighbour_53 : decode cX9_neighbour 53 = .ok (.iload_n 0, 1) := by decide +kernel
theorem dX9_neighbour_54 : decode cX9_neighbour 54 = .ok (.iconst 1, 1) := by decide +kernel
theorem dX9_neighbour_55 : decode cX9_neighbour 55 = .ok (.iadd, 1) := by decide +kernel
theorem dX9_neighbour_56 : decode cX9_neighbour 56 = .ok (.goto 5, 3) := by decide +kernel
theorem dX9_neighbour_59 : decode cX9_neighbour 59 = .ok (.ldc 159, 2) := by decide +kernel
theorem dX9_neighbour_61 : decode cX9_neighbour 61 = .ok (.ireturn, 1) := by decide +kernel
theorem dX9_neighbour_62 : decode cX9_neighbour 62 = .ok (.iload_n 0, 1) := by decide +kernel
theorem dX9_neighbour_63 : decode cX9_neighbour 63 = .ok (.bipush 6, 2) := by decide +kernel
theorem dX9_neighbour_65 : decode cX9_neighbour 65 = .ok (.if_icmp .lt 10, 3) := by decide +kernel
theorem dX9_neighbour_68 : decode cX9_neighbour 68 = .ok (.iload_n 0, 1) := by decide +kernel
theorem dX9_neighbour_69 : decode cX9_neighbour 69 = .ok (.bipush 6, 2) := by decide +kernel
theorem dX9_neighbour_71 : decode cX9_neighbour 71 = .ok (.isub, 1) := by decide +kernel
theorem dX9_neighbour_72 : decode cX9_neighbour 72 = .ok (.goto 5, 3) := by decide +kernel
theorem dX9_neighbour_75 : decode cX9_neighbour 75 = .ok (.ldc 159, 2) := by decide +kernel
theorem dX9_neighbour_77 : decode cX9_neighbour 77 = .ok (.ireturn, 1) := by decide +kernel
theorem dX9_neighbour_78 : decode cX9_neighbour 78 = .ok (.iload_n 2, 1) := by decide +kernel
theorem dX9_neighbour_79 : decode cX9_neighbour 79 = .ok (.ifCond .le 9, 3) := by decide +kernel
theorem dX9_neighbour_82 : decode cX9_neighbour 82 = .ok (.iload_n 0, 1) := by decide +kernel
theorem dX9_neighbour_83 : decode cX9_neighbour 83 = .ok (.iconst 1, 1) := by decide +kernel
theorem dX9_neighbour_84 : decode cX9_neighbour 84 = .ok (.isub, 1) := by decide +kernel
theorem dX9_neighbour_85 : decode cX9_neighbour 85 = .ok (.goto 5, 3) := by decide +kernel
theorem dX9_neighbour_88 : decode cX9_neighbour 88 = .ok (.ldc 159, 2) := by decide +kernel
theorem dX9_neighbour_90 : decode cX9_neighbour 90 = .ok (.ireturn, 1) := by decide +kernel
theorem dX9_isBeside_0 : decode cX9_isBeside 0 = .ok (.iconst 0, 1) := by decide +kernel
theorem dX9_isBeside_1 : decode cX9_isBeside 1 = .ok (.istore_n 2, 1) := by decide +kernel
theorem dX9_isBeside_2 : decode cX9_isBeside 2 = .ok (.iload_n 2, 1) := by decide +kernel
theorem dX9_isBeside_3 : decode cX9_isBeside 3 = .ok (.iconst 4, 1) := by decide +kernel
theorem dX9_isBeside_4 : decode cX9_isBeside 4 = .ok (.if_icmp .ge 20, 3) := by decide +kernel
theorem dX9_isBeside_7 : decode cX9_isBeside 7 = .ok (.iload_n 0, 1) := by decide +kernel
theorem dX9_isBeside_8 : decode cX9_isBeside 8 = .ok (.iload_n 2, 1) := by decide +kernel
theorem dX9_isBeside_9 : decode cX9_isBeside 9 = .ok (.invokestatic 349, 3) := by decide +kernel
theorem dX9_isBeside_12 : decode cX9_isBeside 12 = .ok (.iload_n 1, 1) := by decide +kernel
theorem dX9_isBeside_13 : decode cX9_isBeside 13 = .ok (.if_icmp .ne 5, 3) := by decide +kernel
theorem dX9_isBeside_16 : decode cX9_isBeside 16 = .ok (.iconst 1, 1) := by decide +kernel
theorem dX9_isBeside_17 : decode cX9_isBeside 17 = .ok (.ireturn, 1) := by decide +kernel
theorem dX9_isBeside_18 : decode cX9_isBeside 18 = .ok (.iinc 2 1, 3) := by decide +kernel
theorem dX9_isBeside_21 : decode cX9_isBeside 21 = .ok (.goto (-19), 3) := by decide +kernel
theorem dX9_isBeside_24 : decode cX9_isBeside 24 = .ok (.iconst 0, 1) := by decide +kernel
theorem dX9_isBeside_25 : decode cX9_isBeside 25 = .ok (.ireturn, 1) := by decide +kernel
theorem dX9_commonDivisor_0 : decode cX9_commonDivisor 0 = .ok (.iload_n 0, 1) := by decide +kernel
theorem dX9_commonDivisor_1 : decode cX9_commonDivisor 1 = .ok (.istore_n 2, 1) := by decide +kernel
theorem dX9_commonDivisor_2 : decode cX9_commonDivisor 2 = .ok (.iload_n 1, 1) := by decide +kernel
theorem dX9_commonDivisor_3 : decode cX9_commonDivisor 3 = .ok (.istore_n 3, 1) := by decide +kernel
theorem dX9_commonDivisor_4 : decode cX9_commonDivisor 4 = .ok (.iconst 0, 1) := by decide +kernel
theorem dX9_commonDivisor_5 : decode cX9_commonDivisor 5 = .ok (.istore 4, 2) := by decide +kernel
theorem dX9_commonDivisor_7 : decode cX9_commonDivisor 7 = .ok (.iload 4, 2) := by decide +kernel
theorem dX9_commonDivisor_9 : decode cX9_commonDivisor 9 = .ok (.bipush 100, 2) := by decide +kernel
theorem dX9_commonDivisor_11 : decode cX9_commonDivisor 11 = .ok (.if_icmp .ge 23, 3) := by decide +kernel
theorem dX9_commonDivisor_14 : decode cX9_commonDivisor 14 = .ok (.iload_n 3, 1) := by decide +kernel
theorem dX9_commonDivisor_15 : decode cX9_commonDivisor 15 = .ok (.ifCond .eq 19, 3) := by decide +kernel
theorem dX9_commonDivisor_18 : decode cX9_commonDivisor 18 = .ok (.iload_n 2, 1) := by decide +kernel
theorem dX9_commonDivisor_19 : decode cX9_commonDivisor 19 = .ok (.iload_n 3, 1) := by decide +kernel
theorem dX9_commonDivisor_20 : decode cX9_commonDivisor 20 = .ok (.irem, 1) := by decide +kernel
theorem dX9_commonDivisor_21 : decode cX9_commonDivisor 21 = .ok (.istore 5, 2) := by decide +kernel
theorem dX9_commonDivisor_23 : decode cX9_commonDivisor 23 = .ok (.iload_n 3, 1) := by decide +kernel
theorem dX9_commonDivisor_24 : decode cX9_commonDivisor 24 = .ok (.istore_n 2, 1) := by decide +kernel
theorem dX9_commonDivisor_25 : decode cX9_commonDivisor 25 = .ok (.iload 5, 2) := by decide +kernel
theorem dX9_commonDivisor_27 : decode cX9_commonDivisor 27 = .ok (.istore_n 3, 1) := by decide +kernel
theorem dX9_commonDivisor_28 : decode cX9_commonDivisor 28 = .ok (.iinc 4 1, 3) := by decide +kernel
theorem dX9_commonDivisor_31 : decode cX9_commonDivisor 31 = .ok (.goto (-24), 3) := by decide +kernel
theorem dX9_commonDivisor_34 : decode cX9_commonDivisor 34 = .ok (.iload_n 2, 1) := by decide +kernel
theorem dX9_commonDivisor_35 : decode cX9_commonDivisor 35 = .ok (.ireturn, 1) := by decide +kernel
theorem dX10_init_0 : decode cX10_init 0 = .ok (.aload_n 0, 1) := by decide +kernel
theorem dX10_init_1 : decode cX10_init 1 = .ok (.invokespecial 1, 3) := by decide +kernel
theorem dX10_init_4 : decode cX10_init 4 = .ok (.aload_n 0, 1) := by decide +kernel
theorem dX10_init_5 : decode cX10_init 5 = .ok (.sipush 3122, 3) := by decide +kernel
theorem dX10_init_8 : decode cX10_init 8 = .ok (.newarray .int, 2) := by decide +kernel
theorem dX10_init_10 : decode cX10_init 10 = .ok (.putfield 7, 3) := by decide +kernel
theorem dX10_init_13 : decode cX10_init 13 = .ok (.aload_n 0, 1) := by decide +kernel
theorem dX10_init_14 : decode cX10_init 14 = .ok (.sipush 3122, 3) := by decide +kernel
theorem dX10_init_17 : decode cX10_init 17 = .ok (.newarray .int, 2) := by decide +kernel
theorem dX10_init_19 : decode cX10_init 19 = .ok (.putfield 13, 3) := by decide +kernel
theorem dX10_init_22 : decode cX10_init 22 = .ok (.aload_n 0, 1) := by decide +kernel
theorem dX10_init_23 : decode cX10_init 23 = .ok (.sipush 3122, 3) := by decide +kernel
theorem dX10_init_26 : decode cX10_init 26 = .ok (.newarray .int, 2) := by decide +kernel
theorem dX10_init_28 : decode cX10_init 28 = .ok (.putfield 16, 3) := by decide +kernel
theorem dX10_init_31 : decode cX10_init 31 = .ok (.aload_n 0, 1) := by decide +kernel
theorem dX10_init_32 : decode cX10_init 32 = .ok (.iconst 4, 1) := by decide +kernel
theorem dX10_init_33 : decode cX10_init 33 = .ok (.newarray .int, 2) := by decide +kernel
theorem dX10_init_35 : decode cX10_init 35 = .ok (.putfield 19, 3) := by decide +kernel
theorem dX10_init_38 : decode cX10_init 38 = .ok (.aload_n 0, 1) := by decide +kernel
theorem dX10_init_39 : decode cX10_init 39 = .ok (.iconst 4, 1) := by decide +kernel
theorem dX10_init_40 : decode cX10_init 40 = .ok (.newarray .int, 2) := by decide +kernel
theorem dX10_init_42 : decode cX10_init 42 = .ok (.putfield 22, 3) := by decide +kernel
theorem dX10_init_45 : decode cX10_init 45 = .ok (.aload_n 0, 1) := by decide +kernel
theorem dX10_init_46 : decode cX10_init 46 = .ok (.bipush 96, 2) := by decide +kernel
theorem dX10_init_48 : decode cX10_init 48 = .ok (.newarray .int, 2) := by decide +kernel
theorem dX10_init_50 : decode cX10_init 50 = .ok (.putfield 25, 3) := by decide +kernel
theorem dX10_init_53 : decode cX10_init 53 = .ok (.aload_n 0, 1) := by decide +kernel
theorem dX10_init_54 : decode cX10_init 54 = .ok (.iconst 5, 1) := by decide +kernel
theorem dX10_init_55 : decode cX10_init 55 = .ok (.newarray .int, 2) := by decide +kernel
theorem dX10_init_57 : decode cX10_init 57 = .ok (.putfield 28, 3) := by decide +kernel
theorem dX10_init_60 : decode cX10_init 60 = .ok (.aload_n 0, 1) := by decide +kernel
theorem dX10_init_61 : decode cX10_init 61 = .ok (.iconst 5, 1) := by decide +kernel
theorem dX10_init_62 : decode cX10_init 62 = .ok (.newarray .int, 2) := by decide +kernel
theorem dX10_init_64 : decode cX10_init 64 = .ok (.putfield 31, 3) := by decide +kernel
theorem dX10_init_67 : decode cX10_init 67 = .ok (.aload_n 0, 1) := by decide +kernel
theorem dX10_init_68 : decode cX10_init 68 = .ok (.iconst 5, 1) := by decide +kernel
theorem dX10_init_69 : decode cX10_init 69 = .ok (.newarray .int, 2) := by decide +kernel
theorem dX10_init_71 : decode cX10_init 71 = .ok (.putfield 34, 3) := by decide +kernel
theorem dX10_init_74 : decode cX10_init 74 = .ok (.aload_n 0, 1) := by decide +kernel
theorem dX10_init_75 : decode cX10_init 75 = .ok (.iconst 5, 1) := by decide +kernel
theorem dX10_init_76 : decode cX10_init 76 = .ok (.newarray .int, 2) := by decide +kernel
theorem dX10_init_78 : decode cX10_init 78 = .ok (.putfield 37, 3) := by decide +kernel
theorem dX10_init_81 : decode cX10_init 81 = .ok (.aload_n 0, 1) := by decide +kernel
theorem dX10_init_82 : decode cX10_init 82 = .ok (.bipush 120, 2) := by decide +kernel
theorem dX10_init_84 : decode cX10_init 84 = .ok (.newarray .int, 2) := by decide +kernel
theorem dX10_init_86 : decode cX10_init 86 = .ok (.putfield 40, 3) := by decide +kernel
theorem dX10_init_89 : decode cX10_init 89 = .ok (.aload_n 0, 1) := by decide +kernel
theorem dX10_init_90 : decode cX10_init 90 = .ok (.bipush 30, 2) := by decide +kernel
theorem dX10_init_92 : decode cX10_init 92 = .ok (.newarray .int, 2) := by decide +kernel
theorem dX10_init_94 : decode cX10_init 94 = .ok (.putfield 43, 3) := by decide +kernel
theorem dX10_init_97 : decode cX10_init 97 = .ok (.aload_n 0, 1) := by decide +kernel
theorem dX10_init_98 : decode cX10_init 98 = .ok (.bipush 122, 2) := by decide +kernel
theorem dX10_init_100 : decode cX10_init 100 = .ok (.newarray .int, 2) := by decide +kernel
theorem dX10_init_102 : decode cX10_init 102 = .ok (.putfield 46, 3) := by decide +kernel
theorem dX10_init_105 : decode cX10_init 105 = .ok (.aload_n 0, 1) := by decide +kernel
theorem dX10_init_106 : decode cX10_init 106 = .ok (.bipush 30, 2) := by decide +kernel
theorem dX10_init_108 : decode cX10_init 108 = .ok (.newarray .int, 2) := by decide +kernel
theorem dX10_init_110 : decode cX10_init 110 = .ok (.putfield 49, 3) := by decide +kernel
theorem dX10_init_113 : decode cX10_init 113 = .ok (.aload_n 0, 1) := by decide +kernel
theorem dX10_init_114 : decode cX10_init 114 = .ok (.bipush 30, 2) := by decide +kernel
theorem dX10_init_116 : decode cX10_init 116 = .ok (.newarray .int, 2) := by decide +kernel
theorem dX10_init_118 : decode cX10_init 118 = .ok (.putfield 52, 3) := by decide +kernel
theorem dX10_init_121 : decode cX10_init 121 = .ok (.aload_n 0, 1) := by decide +kernel
theorem dX10_init_122 : decode cX10_init 122 = .ok (.bipush 30, 2) := by decide +kernel
theorem dX10_init_124 : decode cX10_init 124 = .ok (.newarray .int, 2) := by decide +kernel
theorem dX10_init_126 : decode cX10_init 126 = .ok (.putfield 55, 3) := by decide +kernel
theorem dX10_init_129 : decode cX10_init 129 = .ok (.aload_n 0, 1) := by decide +kernel
theorem dX10_init_130 : decode cX10_init 130 = .ok (.bipush 30, 2) := by decide +kernel
theorem dX10_init_132 : decode cX10_init 132 = .ok (.newarray .int, 2) := by decide +kernel
theorem dX10_init_134 : decode cX10_init 134 = .ok (.putfield 58, 3) := by decide +kernel
theorem dX10_init_137 : decode cX10_init 137 = .ok (.aload_n 0, 1) := by decide +kernel
theorem dX10_init_138 : decode cX10_init 138 = .ok (.bipush 30, 2) := by decide +kernel
theorem dX10_init_140 : decode cX10_init 140 = .ok (.newarray .int, 2) := by decide +kernel
theorem dX10_init_142 : decode cX10_init 142 = .ok (.putfield 61, 3) := by decide +kernel
theorem dX10_init_145 : decode cX10_init 145 = .ok (.aload_n 0, 1) := by decide +kernel
theorem dX10_init_146 : decode cX10_init 146 = .ok (.bipush 30, 2) := by decide +kernel
theorem dX10_init_148 : decode cX10_init 148 = .ok (.newarray .boolean, 2) := by decide +kernel
theorem dX10_init_150 : decode cX10_init 150 = .ok (.putfield 64, 3) := by decide +kernel
theorem dX10_init_153 : decode cX10_init 153 = .ok (.aload_n 0, 1) := by decide +kernel
theorem dX10_init_154 : decode cX10_init 154 = .ok (.bipush 96, 2) := by decide +kernel
theorem dX10_init_156 : decode cX10_init 156 = .ok (.newarray .int, 2) := by decide +kernel
theorem dX10_init_158 : decode cX10_init 158 = .ok (.putfield 68, 3) := by decide +kernel
theorem dX10_init_161 : decode cX10_init 161 = .ok (.aload_n 0, 1) := by decide +kernel
theorem dX10_init_162 : decode cX10_init 162 = .ok (.sipush 128, 3) := by decide +kernel
theorem dX10_init_165 : decode cX10_init 165 = .ok (.newarray .int, 2) := by decide +kernel
theorem dX10_init_167 : decode cX10_init 167 = .ok (.putfield 71, 3) := by decide +kernel
theorem dX10_init_170 : decode cX10_init 170 = .ok (.aload_n 0, 1) := by decide +kernel
theorem dX10_init_171 : decode cX10_init 171 = .ok (.bipush 100, 2) := by decide +kernel
theorem dX10_init_173 : decode cX10_init 173 = .ok (.newarray .int, 2) := by decide +kernel
theorem dX10_init_175 : decode cX10_init 175 = .ok (.putfield 74, 3) := by decide +kernel
theorem dX10_init_178 : decode cX10_init 178 = .ok (.aload_n 0, 1) := by decide +kernel
theorem dX10_init_179 : decode cX10_init 179 = .ok (.bipush 24, 2) := by decide +kernel
theorem dX10_init_181 : decode cX10_init 181 = .ok (.newarray .int, 2) := by decide +kernel
theorem dX10_init_183 : decode cX10_init 183 = .ok (.putfield 77, 3) := by decide +kernel
theorem dX10_init_186 : decode cX10_init 186 = .ok (.aload_n 0, 1) := by decide +kernel
theorem dX10_init_187 : decode cX10_init 187 = .ok (.bipush 60, 2) := by decide +kernel
theorem dX10_init_189 : decode cX10_init 189 = .ok (.newarray .int, 2) := by decide +kernel
theorem dX10_init_191 : decode cX10_init 191 = .ok (.putfield 80, 3) := by decide +kernel
theorem dX10_init_194 : decode cX10_init 194 = .ok (.aload_n 0, 1) := by decide +kernel
theorem dX10_init_195 : decode cX10_init 195 = .ok (.bipush 60, 2) := by decide +kernel
theorem dX10_init_197 : decode cX10_init 197 = .ok (.newarray .int, 2) := by decide +kernel
theorem dX10_init_199 : decode cX10_init 199 = .ok (.putfield 83, 3) := by decide +kernel
theorem dX10_init_202 : decode cX10_init 202 = .ok (.aload_n 0, 1) := by decide +kernel
theorem dX10_init_203 : decode cX10_init 203 = .ok (.getfield 7, 3) := by decide +kernel
theorem dX10_init_206 : decode cX10_init 206 = .ok (.iconst 2, 1) := by decide +kernel
theorem dX10_init_207 : decode cX10_init 207 = .ok (.iconst 2, 1) := by decide +kernel
theorem dX10_init_208 : decode cX10_init 208 = .ok (.iastore, 1) := by decide +kernel
theorem dX10_init_209 : decode cX10_init 209 = .ok (.aload_n 0, 1) := by decide +kernel
theorem dX10_init_210 : decode cX10_init 210 = .ok (.getfield 7, 3) := by decide +kernel
theorem dX10_init_213 : decode cX10_init 213 = .ok (.iconst 3, 1) := by decide +kernel
theorem dX10_init_214 : decode cX10_init 214 = .ok (.bipush 6, 2) := by decide +kernel
theorem dX10_init_216 : decode cX10_init 216 = .ok (.iastore, 1) := by decide +kernel
theorem dX10_init_217 : decode cX10_init 217 = .ok (.aload_n 0, 1) := by decide +kernel
theorem dX10_init_218 : decode cX10_init 218 = .ok (.getfield 7, 3) := by decide +kernel
theorem dX10_init_221 : decode cX10_init 221 = .ok (.iconst 4, 1) := by decide +kernel
theorem dX10_init_222 : decode cX10_init 222 = .ok (.iconst 3, 1) := by decide +kernel
theorem dX10_init_223 : decode cX10_init 223 = .ok (.iastore, 1) := by decide +kernel
theorem dX10_init_224 : decode cX10_init 224 = .ok (.aload_n 0, 1) := by decide +kernel
theorem dX10_init_225 : decode cX10_init 225 = .ok (.getfield 7, 3) := by decide +kernel
theorem dX10_init_228 : decode cX10_init 228 = .ok (.bipush 6, 2) := by decide +kernel
theorem dX10_init_230 : decode cX10_init 230 = .ok (.iconst 1, 1) := by decide +kernel
theorem dX10_init_231 : decode cX10_init 231 = .ok (.iastore, 1) := by decide +kernel
theorem dX10_init_232 : decode cX10_init 232 = .ok (.iconst 0, 1) := by decide +kernel
theorem dX10_init_233 : decode cX10_init 233 = .ok (.istore_n 1, 1) := by decide +kernel
theorem dX10_init_234 : decode cX10_init 234 = .ok (.iload_n 1, 1) := by decide +kernel
theorem dX10_init_235 : decode cX10_init 235 = .ok (.iconst 4, 1) := by decide +kernel
theorem dX10_init_236 : decode cX10_init 236 = .ok (.if_icmp .ge 16, 3) := by decide +kernel
theorem dX10_init_239 : decode cX10_init 239 = .ok (.aload_n 0, 1) := by decide +kernel
theorem dX10_init_240 : decode cX10_init 240 = .ok (.getfield 19, 3) := by decide +kernel
theorem dX10_init_243 : decode cX10_init 243 = .ok (.iload_n 1, 1) := by decide +kernel
theorem dX10_init_244 : decode cX10_init 244 = .ok (.iconst (-1), 1) := by decide +kernel
theorem dX10_init_245 : decode cX10_init 245 = .ok (.iastore, 1) := by decide +kernel
theorem dX10_init_246 : decode cX10_init 246 = .ok (.iinc 1 1, 3) := by decide +kernel
theorem dX10_init_249 : decode cX10_init 249 = .ok (.goto (-15), 3) := by decide +kernel
theorem dX10_init_252 : decode cX10_init 252 = .ok (.return_, 1) := by decide +kernel
theorem dX10_isIn_0 : decode cX10_isIn 0 = .ok (.lload_n 0, 1) := by decide +kernel
theorem dX10_isIn_1 : decode cX10_isIn 1 = .ok (.lload_n 2, 1) := by decide +kernel
theorem dX10_isIn_2 : decode cX10_isIn 2 = .ok (.lcmp, 1) := by decide +kernel
theorem dX10_isIn_3 : decode cX10_isIn 3 = .ok (.ifCond .lt 14, 3) := by decide +kernel
theorem dX10_isIn_6 : decode cX10_isIn 6 = .ok (.lload_n 0, 1) := by decide +kernel
theorem dX10_isIn_7 : decode cX10_isIn 7 = .ok (.lload 4, 2) := by decide +kernel
theorem dX10_isIn_9 : decode cX10_isIn 9 = .ok (.lcmp, 1) := by decide +kernel
theorem dX10_isIn_10 : decode cX10_isIn 10 = .ok (.ifCond .gt 7, 3) := by decide +kernel
theorem dX10_isIn_13 : decode cX10_isIn 13 = .ok (.iconst 1, 1) := by decide +kernel
theorem dX10_isIn_14 : decode cX10_isIn 14 = .ok (.goto 4, 3) := by decide +kernel
theorem dX10_isIn_17 : decode cX10_isIn 17 = .ok (.iconst 0, 1) := by decide +kernel
theorem dX10_isIn_18 : decode cX10_isIn 18 = .ok (.ireturn, 1) := by decide +kernel
theorem dX10_orNone_0 : decode cX10_orNone 0 = .ok (.iload_n 0, 1) := by decide +kernel
theorem dX10_orNone_1 : decode cX10_orNone 1 = .ok (.ifCond .ge 8, 3) := by decide +kernel
theorem dX10_orNone_4 : decode cX10_orNone 4 = .ok (.ldc 86, 2) := by decide +kernel
theorem dX10_orNone_6 : decode cX10_orNone 6 = .ok (.goto 4, 3) := by decide +kernel
theorem dX10_orNone_9 : decode cX10_orNone 9 = .ok (.iload_n 0, 1) := by decide +kernel
theorem dX10_orNone_10 : decode cX10_orNone 10 = .ok (.ireturn, 1) := by decide +kernel
theorem dX10_within_0 : decode cX10_within 0 = .ok (.iload_n 0, 1) := by decide +kernel
theorem dX10_within_1 : decode cX10_within 1 = .ok (.ifCond .ge 7, 3) := by decide +kernel
theorem dX10_within_4 : decode cX10_within 4 = .ok (.iconst 0, 1) := by decide +kernel
theorem dX10_within_5 : decode cX10_within 5 = .ok (.goto 13, 3) := by decide +kernel
theorem dX10_within_8 : decode cX10_within 8 = .ok (.iload_n 0, 1) := by decide +kernel
theorem dX10_within_9 : decode cX10_within 9 = .ok (.iload_n 1, 1) := by decide +kernel
theorem dX10_within_10 : decode cX10_within 10 = .ok (.if_icmp .le 7, 3) := by decide +kernel
theorem dX10_within_13 : decode cX10_within 13 = .ok (.iload_n 1, 1) := by decide +kernel
theorem dX10_within_14 : decode cX10_within 14 = .ok (.goto 4, 3) := by decide +kernel
theorem dX10_within_17 : decode cX10_within 17 = .ok (.iload_n 0, 1) := by decide +kernel
theorem dX10_within_18 : decode cX10_within 18 = .ok (.ireturn, 1) := by decide +kernel
theorem dX10_becomes_0 : decode cX10_becomes 0 = .ok (.aload_n 0, 1) := by decide +kernel
theorem dX10_becomes_1 : decode cX10_becomes 1 = .ok (.getfield 7, 3) := by decide +kernel
theorem dX10_becomes_4 : decode cX10_becomes 4 = .ok (.iload_n 1, 1) := by decide +kernel
theorem dX10_becomes_5 : decode cX10_becomes 5 = .ok (.iaload, 1) := by decide +kernel
theorem dX10_becomes_6 : decode cX10_becomes 6 = .ok (.istore_n 3, 1) := by decide +kernel
theorem dX10_becomes_7 : decode cX10_becomes 7 = .ok (.aload_n 0, 1) := by decide +kernel
theorem dX10_becomes_8 : decode cX10_becomes 8 = .ok (.getfield 7, 3) := by decide +kernel
theorem dX10_becomes_11 : decode cX10_becomes 11 = .ok (.iload_n 1, 1) := by decide +kernel
theorem dX10_becomes_12 : decode cX10_becomes 12 = .ok (.iload_n 2, 1) := by decide +kernel
theorem dX10_becomes_13 : decode cX10_becomes 13 = .ok (.iastore, 1) := by decide +kernel
theorem dX10_becomes_14 : decode cX10_becomes 14 = .ok (.iload_n 3, 1) := by decide +kernel
theorem dX10_becomes_15 : decode cX10_becomes 15 = .ok (.ireturn, 1) := by decide +kernel
theorem dX10_textAt_0 : decode cX10_textAt 0 = .ok (.bipush 122, 2) := by decide +kernel
theorem dX10_textAt_2 : decode cX10_textAt 2 = .ok (.sipush 200, 3) := by decide +kernel
theorem dX10_textAt_5 : decode cX10_textAt 5 = .ok (.iload_n 1, 1) := by decide +kernel
theorem dX10_textAt_6 : decode cX10_textAt 6 = .ok (.imul, 1) := by decide +kernel
theorem dX10_textAt_7 : decode cX10_textAt 7 = .ok (.iadd, 1) := by decide +kernel
theorem dX10_textAt_8 : decode cX10_textAt 8 = .ok (.ireturn, 1) := by decide +kernel
theorem dX10_of_0 : decode cX10_of 0 = .ok (.aload_n 0, 1) := by decide +kernel
theorem dX10_of_1 : decode cX10_of 1 = .ok (.getfield 7, 3) := by decide +kernel
theorem dX10_of_4 : decode cX10_of 4 = .ok (.bipush 8, 2) := by decide +kernel
theorem dX10_of_6 : decode cX10_of 6 = .ok (.iconst 3, 1) := by decide +kernel
theorem dX10_of_7 : decode cX10_of 7 = .ok (.iload_n 1, 1) := by decide +kernel
theorem dX10_of_8 : decode cX10_of 8 = .ok (.imul, 1) := by decide +kernel
theorem dX10_of_9 : decode cX10_of 9 = .ok (.iadd, 1) := by decide +kernel
theorem dX10_of_10 : decode cX10_of 10 = .ok (.iload_n 2, 1) := by decide +kernel
theorem dX10_of_11 : decode cX10_of 11 = .ok (.iadd, 1) := by decide +kernel
theorem dX10_of_12 : decode cX10_of 12 = .ok (.iaload, 1) := by decide +kernel
theorem dX10_of_13 : decode cX10_of 13 = .ok (.ireturn, 1) := by decide +kernel
theorem dX10_sets_0 : decode cX10_sets 0 = .ok (.aload_n 0, 1) := by decide +kernel
theorem dX10_sets_1 : decode cX10_sets 1 = .ok (.getfield 7, 3) := by decide +kernel
theorem dX10_sets_4 : decode cX10_sets 4 = .ok (.bipush 8, 2) := by decide +kernel
theorem dX10_sets_6 : decode cX10_sets 6 = .ok (.iconst 3, 1) := by decide +kernel
theorem dX10_sets_7 : decode cX10_sets 7 = .ok (.iload_n 1, 1) := by decide +kernel
theorem dX10_sets_8 : decode cX10_sets 8 = .ok (.imul, 1) := by decide +kernel
theorem dX10_sets_9 : decode cX10_sets 9 = .ok (.iadd, 1) := by decide +kernel
theorem dX10_sets_10 : decode cX10_sets 10 = .ok (.iload_n 2, 1) := by decide +kernel
theorem dX10_sets_11 : decode cX10_sets 11 = .ok (.iadd, 1) := by decide +kernel
theorem dX10_sets_12 : decode cX10_sets 12 = .ok (.iload_n 3, 1) := by decide +kernel
theorem dX10_sets_13 : decode cX10_sets 13 = .ok (.iastore, 1) := by decide +kernel
theorem dX10_sets_14 : decode cX10_sets 14 = .ok (.return_, 1) := by decide +kernel
theorem dX10_isCell_0 : decode cX10_isCell 0 = .ok (.iload_n 0, 1) := by decide +kernel
theorem dX10_isCell_1 : decode cX10_isCell 1 = .ok (.ifCond .lt 13, 3) := by decide +kernel
theorem dX10_isCell_4 : decode cX10_isCell 4 = .ok (.iload_n 0, 1) := by decide +kernel
theorem dX10_isCell_5 : decode cX10_isCell 5 = .ok (.bipush 30, 2) := by decide +kernel
theorem dX10_isCell_7 : decode cX10_isCell 7 = .ok (.if_icmp .ge 7, 3) := by decide +kernel
theorem dX10_isCell_10 : decode cX10_isCell 10 = .ok (.iconst 1, 1) := by decide +kernel
theorem dX10_isCell_11 : decode cX10_isCell 11 = .ok (.goto 4, 3) := by decide +kernel
theorem dX10_isCell_14 : decode cX10_isCell 14 = .ok (.iconst 0, 1) := by decide +kernel
theorem dX10_isCell_15 : decode cX10_isCell 15 = .ok (.ireturn, 1) := by decide +kernel
theorem dX10_isText_0 : decode cX10_isText 0 = .ok (.iload_n 1, 1) := by decide +kernel
theorem dX10_isText_1 : decode cX10_isText 1 = .ok (.i2l, 1) := by decide +kernel
theorem dX10_isText_2 : decode cX10_isText 2 = .ok (.lconst 0, 1) := by decide +kernel
theorem dX10_isText_3 : decode cX10_isText 3 = .ok (.aload_n 0, 1) := by decide +kernel
theorem dX10_isText_4 : decode cX10_isText 4 = .ok (.getfield 7, 3) := by decide +kernel
theorem dX10_isText_7 : decode cX10_isText 7 = .ok (.iconst 1, 1) := by decide +kernel
theorem dX10_isText_8 : decode cX10_isText 8 = .ok (.iaload, 1) := by decide +kernel
theorem dX10_isText_9 : decode cX10_isText 9 = .ok (.iconst 1, 1) := by decide +kernel
theorem dX10_isText_10 : decode cX10_isText 10 = .ok (.isub, 1) := by decide +kernel
theorem dX10_isText_11 : decode cX10_isText 11 = .ok (.i2l, 1) := by decide +kernel
theorem dX10_isText_12 : decode cX10_isText 12 = .ok (.invokestatic 87, 3) := by decide +kernel
theorem dX10_isText_15 : decode cX10_isText 15 = .ok (.ireturn, 1) := by decide +kernel
theorem dX10_drawn_0 : decode cX10_drawn 0 = .ok (.aload_n 0, 1) := by decide +kernel
theorem dX10_drawn_1 : decode cX10_drawn 1 = .ok (.getfield 7, 3) := by decide +kernel
theorem dX10_drawn_4 : decode cX10_drawn 4 = .ok (.bipush 6, 2) := by decide +kernel
theorem dX10_drawn_6 : decode cX10_drawn 6 = .ok (.aload_n 0, 1) := by decide +kernel
theorem dX10_drawn_7 : decode cX10_drawn 7 = .ok (.getfield 7, 3) := by decide +kernel
theorem dX10_drawn_10 : decode cX10_drawn 10 = .ok (.bipush 6, 2) := by decide +kernel
theorem dX10_drawn_12 : decode cX10_drawn 12 = .ok (.iaload, 1) := by decide +kernel
theorem dX10_drawn_13 : decode cX10_drawn 13 = .ok (.ldc 91, 2) := by decide +kernel
theorem dX10_drawn_15 : decode cX10_drawn 15 = .ok (.imul, 1) := by decide +kernel
theorem dX10_drawn_16 : decode cX10_drawn 16 = .ok (.sipush 12345, 3) := by decide +kernel
theorem dX10_drawn_19 : decode cX10_drawn 19 = .ok (.iadd, 1) := by decide +kernel
theorem dX10_drawn_20 : decode cX10_drawn 20 = .ok (.iastore, 1) := by decide +kernel
theorem dX10_drawn_21 : decode cX10_drawn 21 = .ok (.aload_n 0, 1) := by decide +kernel
theorem dX10_drawn_22 : decode cX10_drawn 22 = .ok (.getfield 7, 3) := by decide +kernel
theorem dX10_drawn_25 : decode cX10_drawn 25 = .ok (.bipush 6, 2) := by decide +kernel
theorem dX10_drawn_27 : decode cX10_drawn 27 = .ok (.iaload, 1) := by decide +kernel
theorem dX10_drawn_28 : decode cX10_drawn 28 = .ok (.bipush 8, 2) := by decide +kernel
theorem dX10_drawn_30 : decode cX10_drawn 30 = .ok (.iushr, 1) := by decide +kernel
theorem dX10_drawn_31 : decode cX10_drawn 31 = .ok (.ireturn, 1) := by decide +kernel
theorem dX10_sun_0 : decode cX10_sun 0 = .ok (.aload_n 0, 1) := by decide +kernel
theorem dX10_sun_1 : decode cX10_sun 1 = .ok (.getfield 7, 3) := by decide +kernel
theorem dX10_sun_4 : decode cX10_sun 4 = .ok (.iconst 3, 1) := by decide +kernel
theorem dX10_sun_5 : decode cX10_sun 5 = .ok (.iaload, 1) := by decide +kernel
theorem dX10_sun_6 : decode cX10_sun 6 = .ok (.bipush 9, 2) := by decide +kernel
theorem dX10_sun_8 : decode cX10_sun 8 = .ok (.if_icmp .ge 7, 3) := by decide +kernel
theorem dX10_sun_11 : decode cX10_sun 11 = .ok (.iconst 0, 1) := by decide +kernel
theorem dX10_sun_12 : decode cX10_sun 12 = .ok (.goto 12, 3) := by decide +kernel
theorem dX10_sun_15 : decode cX10_sun 15 = .ok (.aload_n 0, 1) := by decide +kernel
theorem dX10_sun_16 : decode cX10_sun 16 = .ok (.getfield 7, 3) := by decide +kernel
theorem dX10_sun_19 : decode cX10_sun 19 = .ok (.iconst 3, 1) := by decide +kernel
theorem dX10_sun_20 : decode cX10_sun 20 = .ok (.iaload, 1) := by decide +kernel
theorem dX10_sun_21 : decode cX10_sun 21 = .ok (.bipush 9, 2) := by decide +kernel
theorem dX10_sun_23 : decode cX10_sun 23 = .ok (.isub, 1) := by decide +kernel
theorem dX10_sun_24 : decode cX10_sun 24 = .ok (.ireturn, 1) := by decide +kernel
theorem dX10_plainRisk_0 : decode cX10_plainRisk 0 = .ok (.aload_n 0, 1) := by decide +kernel
theorem dX10_plainRisk_1 : decode cX10_plainRisk 1 = .ok (.iload_n 1, 1) := by decide +kernel
theorem dX10_plainRisk_2 : decode cX10_plainRisk 2 = .ok (.iconst 1, 1) := by decide +kernel
theorem dX10_plainRisk_3 : decode cX10_plainRisk 3 = .ok (.invokevirtual 92, 3) := by decide +kernel
theorem dX10_plainRisk_6 : decode cX10_plainRisk 6 = .ok (.istore_n 2, 1) := by decide +kernel
theorem dX10_plainRisk_7 : decode cX10_plainRisk 7 = .ok (.aload_n 0, 1) := by decide +kernel
theorem dX10_plainRisk_8 : decode cX10_plainRisk 8 = .ok (.iconst 0, 1) := by decide +kernel
theorem dX10_plainRisk_9 : decode cX10_plainRisk 9 = .ok (.invokevirtual 96, 3) := by decide +kernel
theorem dX10_plainRisk_12 : decode cX10_plainRisk 12 = .ok (.istore_n 3, 1) := by decide +kernel
theorem dX10_plainRisk_13 : decode cX10_plainRisk 13 = .ok (.iload_n 3, 1) := by decide +kernel
theorem dX10_plainRisk_14 : decode cX10_plainRisk 14 = .ok (.ifCond .ge 35, 3) := by decide +kernel
theorem dX10_plainRisk_17 : decode cX10_plainRisk 17 = .ok (.iload_n 2, 1) := by decide +kernel
theorem dX10_plainRisk_18 : decode cX10_plainRisk 18 = .ok (.bipush 30, 2) := by decide +kernel
theorem dX10_plainRisk_20 : decode cX10_plainRisk 20 = .ok (.if_icmp .ge 7, 3) := by decide +kernel
theorem dX10_plainRisk_23 : decode cX10_plainRisk 23 = .ok (.iconst 0, 1) := by decide +kernel
theorem dX10_plainRisk_24 : decode cX10_plainRisk 24 = .ok (.goto 24, 3) := by decide +kernel
theorem dX10_plainRisk_27 : decode cX10_plainRisk 27 = .ok (.iload_n 2, 1) := by decide +kernel
theorem dX10_plainRisk_28 : decode cX10_plainRisk 28 = .ok (.bipush 29, 2) := by decide +kernel
theorem dX10_plainRisk_30 : decode cX10_plainRisk 30 = .ok (.isub, 1) := by decide +kernel
theorem dX10_plainRisk_31 : decode cX10_plainRisk 31 = .ok (.aload_n 0, 1) := by decide +kernel
theorem dX10_plainRisk_32 : decode cX10_plainRisk 32 = .ok (.getfield 7, 3) := by decide +kernel
theorem dX10_plainRisk_35 : decode cX10_plainRisk 35 = .ok (.iconst 2, 1) := by decide +kernel
theorem dX10_plainRisk_36 : decode cX10_plainRisk 36 = .ok (.iaload, 1) := by decide +kernel
theorem dX10_plainRisk_37 : decode cX10_plainRisk 37 = .ok (.imul, 1) := by decide +kernel
theorem dX10_plainRisk_38 : decode cX10_plainRisk 38 = .ok (.aload_n 0, 1) := by decide +kernel
theorem dX10_plainRisk_39 : decode cX10_plainRisk 39 = .ok (.iload_n 1, 1) := by decide +kernel
theorem dX10_plainRisk_40 : decode cX10_plainRisk 40 = .ok (.iconst 2, 1) := by decide +kernel
theorem dX10_plainRisk_41 : decode cX10_plainRisk 41 = .ok (.invokevirtual 92, 3) := by decide +kernel
theorem dX10_plainRisk_44 : decode cX10_plainRisk 44 = .ok (.bipush 10, 2) := by decide +kernel
theorem dX10_plainRisk_46 : decode cX10_plainRisk 46 = .ok (.idiv, 1) := by decide +kernel
theorem dX10_plainRisk_47 : decode cX10_plainRisk 47 = .ok (.iadd, 1) := by decide +kernel
theorem dX10_plainRisk_48 : decode cX10_plainRisk 48 = .ok (.ireturn, 1) := by decide +kernel
theorem dX10_plainRisk_49 : decode cX10_plainRisk 49 = .ok (.aload_n 0, 1) := by decide +kernel
theorem dX10_plainRisk_50 : decode cX10_plainRisk 50 = .ok (.getfield 71, 3) := by decide +kernel
theorem dX10_plainRisk_53 : decode cX10_plainRisk 53 = .ok (.bipush 115, 2) := by decide +kernel
theorem dX10_plainRisk_55 : decode cX10_plainRisk 55 = .ok (.iload_n 2, 1) := by decide +kernel
theorem dX10_plainRisk_56 : decode cX10_plainRisk 56 = .ok (.iastore, 1) := by decide +kernel
theorem dX10_plainRisk_57 : decode cX10_plainRisk 57 = .ok (.aload_n 0, 1) := by decide +kernel
theorem dX10_plainRisk_58 : decode cX10_plainRisk 58 = .ok (.getfield 71, 3) := by decide +kernel
theorem dX10_plainRisk_61 : decode cX10_plainRisk 61 = .ok (.bipush 108, 2) := by decide +kernel
theorem dX10_plainRisk_63 : decode cX10_plainRisk 63 = .ok (.aload_n 0, 1) := by decide +kernel
theorem dX10_plainRisk_64 : decode cX10_plainRisk 64 = .ok (.iload_n 1, 1) := by decide +kernel
theorem dX10_plainRisk_65 : decode cX10_plainRisk 65 = .ok (.iconst 2, 1) := by decide +kernel
theorem dX10_plainRisk_66 : decode cX10_plainRisk 66 = .ok (.invokevirtual 92, 3) := by decide +kernel
theorem dX10_plainRisk_69 : decode cX10_plainRisk 69 = .ok (.iastore, 1) := by decide +kernel
theorem dX10_plainRisk_70 : decode cX10_plainRisk 70 = .ok (.aload_n 0, 1) := by decide +kernel
theorem dX10_plainRisk_71 : decode cX10_plainRisk 71 = .ok (.getfield 71, 3) := by decide +kernel
theorem dX10_plainRisk_74 : decode cX10_plainRisk 74 = .ok (.bipush 100, 2) := by decide +kernel
theorem dX10_plainRisk_76 : decode cX10_plainRisk 76 = .ok (.aload_n 0, 1) := by decide +kernel
theorem dX10_plainRisk_77 : decode cX10_plainRisk 77 = .ok (.getfield 7, 3) := by decide +kernel
theorem dX10_plainRisk_80 : decode cX10_plainRisk 80 = .ok (.iconst 2, 1) := by decide +kernel
theorem dX10_plainRisk_81 : decode cX10_plainRisk 81 = .ok (.iaload, 1) := by decide +kernel
theorem dX10_plainRisk_82 : decode cX10_plainRisk 82 = .ok (.iastore, 1) := by decide +kernel
theorem dX10_plainRisk_83 : decode cX10_plainRisk 83 = .ok (.aload_n 0, 1) := by decide +kernel
theorem dX10_plainRisk_84 : decode cX10_plainRisk 84 = .ok (.iload_n 3, 1) := by decide +kernel
theorem dX10_plainRisk_85 : decode cX10_plainRisk 85 = .ok (.invokevirtual 100, 3) := by decide +kernel
theorem dX10_plainRisk_88 : decode cX10_plainRisk 88 = .ok (.sipush 999, 3) := by decide +kernel
theorem dX10_plainRisk_91 : decode cX10_plainRisk 91 = .ok (.invokestatic 103, 3) := by decide +kernel
theorem dX10_plainRisk_94 : decode cX10_plainRisk 94 = .ok (.ireturn, 1) := by decide +kernel
theorem dX10_above_0 : decode cX10_above 0 = .ok (.iconst 0, 1) := by decide +kernel
theorem dX10_above_1 : decode cX10_above 1 = .ok (.istore_n 2, 1) := by decide +kernel
theorem dX10_above_2 : decode cX10_above 2 = .ok (.iload_n 1, 1) := by decide +kernel
theorem dX10_above_3 : decode cX10_above 3 = .ok (.bipush 6, 2) := by decide +kernel
theorem dX10_above_5 : decode cX10_above 5 = .ok (.iadd, 1) := by decide +kernel
theorem dX10_above_6 : decode cX10_above 6 = .ok (.istore_n 3, 1) := by decide +kernel
theorem dX10_above_7 : decode cX10_above 7 = .ok (.iload_n 3, 1) := by decide +kernel
theorem dX10_above_8 : decode cX10_above 8 = .ok (.bipush 30, 2) := by decide +kernel
theorem dX10_above_10 : decode cX10_above 10 = .ok (.if_icmp .ge 29, 3) := by decide +kernel
theorem dX10_above_13 : decode cX10_above 13 = .ok (.aload_n 0, 1) := by decide +kernel
theorem dX10_above_14 : decode cX10_above 14 = .ok (.iload_n 3, 1) := by decide +kernel
theorem dX10_above_15 : decode cX10_above 15 = .ok (.invokevirtual 106, 3) := by decide +kernel
theorem dX10_above_18 : decode cX10_above 18 = .ok (.istore 4, 2) := by decide +kernel
theorem dX10_above_20 : decode cX10_above 20 = .ok (.iload 4, 2) := by decide +kernel
theorem dX10_above_22 : decode cX10_above 22 = .ok (.iload_n 2, 1) := by decide +kernel
theorem dX10_above_23 : decode cX10_above 23 = .ok (.if_icmp .le 8, 3) := by decide +kernel
theorem dX10_above_26 : decode cX10_above 26 = .ok (.iload 4, 2) := by decide +kernel
theorem dX10_above_28 : decode cX10_above 28 = .ok (.goto 4, 3) := by decide +kernel
theorem dX10_above_31 : decode cX10_above 31 = .ok (.iload_n 2, 1) := by decide +kernel
theorem dX10_above_32 : decode cX10_above 32 = .ok (.istore_n 2, 1) := by decide +kernel
theorem dX10_above_33 : decode cX10_above 33 = .ok (.iinc 3 6, 3) := by decide +kernel
theorem dX10_above_36 : decode cX10_above 36 = .ok (.goto (-29), 3) := by decide +kernel
theorem dX10_above_39 : decode cX10_above 39 = .ok (.iload_n 2, 1) := by decide +kernel
theorem dX10_above_40 : decode cX10_above 40 = .ok (.ireturn, 1) := by decide +kernel
theorem dX10_risk_0 : decode cX10_risk 0 = .ok (.aload_n 0, 1) := by decide +kernel
theorem dX10_risk_1 : decode cX10_risk 1 = .ok (.iload_n 1, 1) := by decide +kernel
theorem dX10_risk_2 : decode cX10_risk 2 = .ok (.invokevirtual 106, 3) := by decide +kernel
theorem dX10_risk_5 : decode cX10_risk 5 = .ok (.istore_n 2, 1) := by decide +kernel
theorem dX10_risk_6 : decode cX10_risk 6 = .ok (.aload_n 0, 1) := by decide +kernel
theorem dX10_risk_7 : decode cX10_risk 7 = .ok (.iload_n 1, 1) := by decide +kernel
theorem dX10_risk_8 : decode cX10_risk 8 = .ok (.iconst 0, 1) := by decide +kernel
theorem dX10_risk_9 : decode cX10_risk 9 = .ok (.invokevirtual 92, 3) := by decide +kernel
theorem dX10_risk_12 : decode cX10_risk 12 = .ok (.tableswitch 75 1 5 #[36, 46, 50, 62, 71], 36) := by decide +kernel
theorem dX10_risk_48 : decode cX10_risk 48 = .ok (.iload_n 2, 1) := by decide +kernel
theorem dX10_risk_49 : decode cX10_risk 49 = .ok (.aload_n 0, 1) := by decide +kernel
theorem dX10_risk_50 : decode cX10_risk 50 = .ok (.iload_n 1, 1) := by decide +kernel
theorem dX10_risk_51 : decode cX10_risk 51 = .ok (.invokevirtual 109, 3) := by decide +kernel
theorem dX10_risk_54 : decode cX10_risk 54 = .ok (.iconst 2, 1) := by decide +kernel
theorem dX10_risk_55 : decode cX10_risk 55 = .ok (.idiv, 1) := by decide +kernel
theorem dX10_risk_56 : decode cX10_risk 56 = .ok (.iadd, 1) := by decide +kernel
theorem dX10_risk_57 : decode cX10_risk 57 = .ok (.ireturn, 1) := by decide +kernel
theorem dX10_risk_58 : decode cX10_risk 58 = .ok (.iload_n 2, 1) := by decide +kernel
theorem dX10_risk_59 : decode cX10_risk 59 = .ok (.iconst 2, 1) := by decide +kernel
theorem dX10_risk_60 : decode cX10_risk 60 = .ok (.idiv, 1) := by decide +kernel
theorem dX10_risk_61 : decode cX10_risk 61 = .ok (.ireturn, 1) := by decide +kernel
theorem dX10_risk_62 : decode cX10_risk 62 = .ok (.iconst 2, 1) := by decide +kernel
theorem dX10_risk_63 : decode cX10_risk 63 = .ok (.iload_n 2, 1) := by decide +kernel
theorem dX10_risk_64 : decode cX10_risk 64 = .ok (.aload_n 0, 1) := by decide +kernel
theorem dX10_risk_65 : decode cX10_risk 65 = .ok (.iload_n 1, 1) := by decide +kernel
theorem dX10_risk_66 : decode cX10_risk 66 = .ok (.invokevirtual 109, 3) := by decide +kernel
theorem dX10_risk_69 : decode cX10_risk 69 = .ok (.iconst 2, 1) := by decide +kernel
theorem dX10_risk_70 : decode cX10_risk 70 = .ok (.idiv, 1) := by decide +kernel
theorem dX10_risk_71 : decode cX10_risk 71 = .ok (.iadd, 1) := by decide +kernel
theorem dX10_risk_72 : decode cX10_risk 72 = .ok (.imul, 1) := by decide +kernel
theorem dX10_risk_73 : decode cX10_risk 73 = .ok (.ireturn, 1) := by decide +kernel
theorem dX10_risk_74 : decode cX10_risk 74 = .ok (.iload_n 2, 1) := by decide +kernel
theorem dX10_risk_75 : decode cX10_risk 75 = .ok (.iconst 2, 1) := by decide +kernel
theorem dX10_risk_76 : decode cX10_risk 76 = .ok (.idiv, 1) := by decide +kernel
theorem dX10_risk_77 : decode cX10_risk 77 = .ok (.aload_n 0, 1) := by decide +kernel
theorem dX10_risk_78 : decode cX10_risk 78 = .ok (.invokevirtual 112, 3) := by decide +kernel
theorem dX10_risk_81 : decode cX10_risk 81 = .ok (.iadd, 1) := by decide +kernel
theorem dX10_risk_82 : decode cX10_risk 82 = .ok (.ireturn, 1) := by decide +kernel
theorem dX10_risk_83 : decode cX10_risk 83 = .ok (.iload_n 2, 1) := by decide +kernel
theorem dX10_risk_84 : decode cX10_risk 84 = .ok (.iconst 3, 1) := by decide +kernel
theorem dX10_risk_85 : decode cX10_risk 85 = .ok (.idiv, 1) := by decide +kernel
theorem dX10_risk_86 : decode cX10_risk 86 = .ok (.ireturn, 1) := by decide +kernel
theorem dX10_risk_87 : decode cX10_risk 87 = .ok (.iload_n 2, 1) := by decide +kernel
theorem dX10_risk_88 : decode cX10_risk 88 = .ok (.ireturn, 1) := by decide +kernel
theorem dX10_holds_0 : decode cX10_holds 0 = .ok (.bipush 70, 2) := by decide +kernel
theorem dX10_holds_2 : decode cX10_holds 2 = .ok (.aload_n 0, 1) := by decide +kernel
theorem dX10_holds_3 : decode cX10_holds 3 = .ok (.iload_n 1, 1) := by decide +kernel
theorem dX10_holds_4 : decode cX10_holds 4 = .ok (.iconst 1, 1) := by decide +kernel
theorem dX10_holds_5 : decode cX10_holds 5 = .ok (.invokevirtual 92, 3) := by decide +kernel
theorem dX10_holds_8 : decode cX10_holds 8 = .ok (.isub, 1) := by decide +kernel
theorem dX10_holds_9 : decode cX10_holds 9 = .ok (.istore_n 2, 1) := by decide +kernel
theorem dX10_holds_10 : decode cX10_holds 10 = .ok (.aload_n 0, 1) := by decide +kernel
theorem dX10_holds_11 : decode cX10_holds 11 = .ok (.iconst 1, 1) := by decide +kernel
theorem dX10_holds_12 : decode cX10_holds 12 = .ok (.invokevirtual 96, 3) := by decide +kernel
theorem dX10_holds_15 : decode cX10_holds 15 = .ok (.istore_n 3, 1) := by decide +kernel
theorem dX10_holds_16 : decode cX10_holds 16 = .ok (.iload_n 3, 1) := by decide +kernel
theorem dX10_holds_17 : decode cX10_holds 17 = .ok (.ifCond .lt 38, 3) := by decide +kernel
theorem dX10_holds_20 : decode cX10_holds 20 = .ok (.aload_n 0, 1) := by decide +kernel
theorem dX10_holds_21 : decode cX10_holds 21 = .ok (.getfield 71, 3) := by decide +kernel
theorem dX10_holds_24 : decode cX10_holds 24 = .ok (.bipush 115, 2) := by decide +kernel
theorem dX10_holds_26 : decode cX10_holds 26 = .ok (.aload_n 0, 1) := by decide +kernel
theorem dX10_holds_27 : decode cX10_holds 27 = .ok (.iload_n 1, 1) := by decide +kernel
theorem dX10_holds_28 : decode cX10_holds 28 = .ok (.iconst 1, 1) := by decide +kernel
theorem dX10_holds_29 : decode cX10_holds 29 = .ok (.invokevirtual 92, 3) := by decide +kernel
theorem dX10_holds_32 : decode cX10_holds 32 = .ok (.iastore, 1) := by decide +kernel
theorem dX10_holds_33 : decode cX10_holds 33 = .ok (.aload_n 0, 1) := by decide +kernel
theorem dX10_holds_34 : decode cX10_holds 34 = .ok (.getfield 71, 3) := by decide +kernel
theorem dX10_holds_37 : decode cX10_holds 37 = .ok (.bipush 114, 2) := by decide +kernel
theorem dX10_holds_39 : decode cX10_holds 39 = .ok (.iload_n 1, 1) := by decide +kernel
theorem dX10_holds_40 : decode cX10_holds 40 = .ok (.bipush 6, 2) := by decide +kernel
theorem dX10_holds_42 : decode cX10_holds 42 = .ok (.idiv, 1) := by decide +kernel
theorem dX10_holds_43 : decode cX10_holds 43 = .ok (.iastore, 1) := by decide +kernel
theorem dX10_holds_44 : decode cX10_holds 44 = .ok (.aload_n 0, 1) := by decide +kernel
theorem dX10_holds_45 : decode cX10_holds 45 = .ok (.iload_n 3, 1) := by decide +kernel
theorem dX10_holds_46 : decode cX10_holds 46 = .ok (.invokevirtual 100, 3) := by decide +kernel
theorem dX10_holds_49 : decode cX10_holds 49 = .ok (.bipush 99, 2) := by decide +kernel
theorem dX10_holds_51 : decode cX10_holds 51 = .ok (.invokestatic 103, 3) := by decide +kernel
theorem dX10_holds_54 : decode cX10_holds 54 = .ok (.istore_n 2, 1) := by decide +kernel
theorem dX10_holds_55 : decode cX10_holds 55 = .ok (.aload_n 0, 1) := by decide +kernel
theorem dX10_holds_56 : decode cX10_holds 56 = .ok (.iload_n 1, 1) := by decide +kernel
theorem dX10_holds_57 : decode cX10_holds 57 = .ok (.iconst 0, 1) := by decide +kernel
theorem dX10_holds_58 : decode cX10_holds 58 = .ok (.invokevirtual 92, 3) := by decide +kernel
theorem dX10_holds_61 : decode cX10_holds 61 = .ok (.istore 4, 2) := by decide +kernel
theorem dX10_holds_63 : decode cX10_holds 63 = .ok (.iload 4, 2) := by decide +kernel
theorem dX10_holds_65 : decode cX10_holds 65 = .ok (.iconst 2, 1) := by decide +kernel
theorem dX10_holds_66 : decode cX10_holds 66 = .ok (.if_icmp .ne 9, 3) := by decide +kernel
theorem dX10_holds_69 : decode cX10_holds 69 = .ok (.iload_n 2, 1) := by decide +kernel
theorem dX10_holds_70 : decode cX10_holds 70 = .ok (.iconst 5, 1) := by decide +kernel
theorem dX10_holds_71 : decode cX10_holds 71 = .ok (.iadd, 1) := by decide +kernel
theorem dX10_holds_72 : decode cX10_holds 72 = .ok (.goto 34, 3) := by decide +kernel
theorem dX10_holds_75 : decode cX10_holds 75 = .ok (.iload 4, 2) := by decide +kernel
theorem dX10_holds_77 : decode cX10_holds 77 = .ok (.iconst 4, 1) := by decide +kernel
theorem dX10_holds_78 : decode cX10_holds 78 = .ok (.if_icmp .ne 14, 3) := by decide +kernel
theorem dX10_holds_81 : decode cX10_holds 81 = .ok (.iload_n 2, 1) := by decide +kernel
theorem dX10_holds_82 : decode cX10_holds 82 = .ok (.iconst 5, 1) := by decide +kernel
theorem dX10_holds_83 : decode cX10_holds 83 = .ok (.iadd, 1) := by decide +kernel
theorem dX10_holds_84 : decode cX10_holds 84 = .ok (.aload_n 0, 1) := by decide +kernel
theorem dX10_holds_85 : decode cX10_holds 85 = .ok (.invokevirtual 112, 3) := by decide +kernel
theorem dX10_holds_88 : decode cX10_holds 88 = .ok (.isub, 1) := by decide +kernel
theorem dX10_holds_89 : decode cX10_holds 89 = .ok (.goto 17, 3) := by decide +kernel
theorem dX10_holds_92 : decode cX10_holds 92 = .ok (.iload 4, 2) := by decide +kernel
theorem dX10_holds_94 : decode cX10_holds 94 = .ok (.iconst 5, 1) := by decide +kernel
theorem dX10_holds_95 : decode cX10_holds 95 = .ok (.if_icmp .ne 10, 3) := by decide +kernel
theorem dX10_holds_98 : decode cX10_holds 98 = .ok (.iload_n 2, 1) := by decide +kernel
theorem dX10_holds_99 : decode cX10_holds 99 = .ok (.bipush 20, 2) := by decide +kernel
theorem dX10_holds_101 : decode cX10_holds 101 = .ok (.iadd, 1) := by decide +kernel
theorem dX10_holds_102 : decode cX10_holds 102 = .ok (.goto 4, 3) := by decide +kernel
theorem dX10_holds_105 : decode cX10_holds 105 = .ok (.iload_n 2, 1) := by decide +kernel
theorem dX10_holds_106 : decode cX10_holds 106 = .ok (.ireturn, 1) := by decide +kernel
theorem dX10_worth_0 : decode cX10_worth 0 = .ok (.aload_n 0, 1) := by decide +kernel
theorem dX10_worth_1 : decode cX10_worth 1 = .ok (.iload_n 1, 1) := by decide +kernel
theorem dX10_worth_2 : decode cX10_worth 2 = .ok (.iconst 1, 1) := by decide +kernel
theorem dX10_worth_3 : decode cX10_worth 3 = .ok (.invokevirtual 92, 3) := by decide +kernel
theorem dX10_worth_6 : decode cX10_worth 6 = .ok (.istore_n 2, 1) := by decide +kernel
theorem dX10_worth_7 : decode cX10_worth 7 = .ok (.aload_n 0, 1) := by decide +kernel
theorem dX10_worth_8 : decode cX10_worth 8 = .ok (.iload_n 1, 1) := by decide +kernel
theorem dX10_worth_9 : decode cX10_worth 9 = .ok (.iconst 0, 1) := by decide +kernel
theorem dX10_worth_10 : decode cX10_worth 10 = .ok (.invokevirtual 92, 3) := by decide +kernel
theorem dX10_worth_13 : decode cX10_worth 13 = .ok (.tableswitch 72 1 5 #[35, 44, 49, 60, 65], 35) := by decide +kernel
theorem dX10_worth_48 : decode cX10_worth 48 = .ok (.iload_n 2, 1) := by decide +kernel
theorem dX10_worth_49 : decode cX10_worth 49 = .ok (.aload_n 0, 1) := by decide +kernel
theorem dX10_worth_50 : decode cX10_worth 50 = .ok (.iload_n 1, 1) := by decide +kernel
theorem dX10_worth_51 : decode cX10_worth 51 = .ok (.iconst 2, 1) := by decide +kernel
theorem dX10_worth_52 : decode cX10_worth 52 = .ok (.invokevirtual 92, 3) := by decide +kernel
theorem dX10_worth_55 : decode cX10_worth 55 = .ok (.iadd, 1) := by decide +kernel
theorem dX10_worth_56 : decode cX10_worth 56 = .ok (.ireturn, 1) := by decide +kernel
theorem dX10_worth_57 : decode cX10_worth 57 = .ok (.bipush 60, 2) := by decide +kernel
theorem dX10_worth_59 : decode cX10_worth 59 = .ok (.iload_n 2, 1) := by decide +kernel
theorem dX10_worth_60 : decode cX10_worth 60 = .ok (.isub, 1) := by decide +kernel
theorem dX10_worth_61 : decode cX10_worth 61 = .ok (.ireturn, 1) := by decide +kernel
theorem dX10_worth_62 : decode cX10_worth 62 = .ok (.iconst 2, 1) := by decide +kernel
theorem dX10_worth_63 : decode cX10_worth 63 = .ok (.iload_n 2, 1) := by decide +kernel
theorem dX10_worth_64 : decode cX10_worth 64 = .ok (.aload_n 0, 1) := by decide +kernel
theorem dX10_worth_65 : decode cX10_worth 65 = .ok (.iload_n 1, 1) := by decide +kernel
theorem dX10_worth_66 : decode cX10_worth 66 = .ok (.iconst 2, 1) := by decide +kernel
theorem dX10_worth_67 : decode cX10_worth 67 = .ok (.invokevirtual 92, 3) := by decide +kernel
theorem dX10_worth_70 : decode cX10_worth 70 = .ok (.iadd, 1) := by decide +kernel
theorem dX10_worth_71 : decode cX10_worth 71 = .ok (.imul, 1) := by decide +kernel
theorem dX10_worth_72 : decode cX10_worth 72 = .ok (.ireturn, 1) := by decide +kernel
theorem dX10_worth_73 : decode cX10_worth 73 = .ok (.bipush 69, 2) := by decide +kernel
theorem dX10_worth_75 : decode cX10_worth 75 = .ok (.iload_n 2, 1) := by decide +kernel
theorem dX10_worth_76 : decode cX10_worth 76 = .ok (.isub, 1) := by decide +kernel
theorem dX10_worth_77 : decode cX10_worth 77 = .ok (.ireturn, 1) := by decide +kernel
theorem dX10_worth_78 : decode cX10_worth 78 = .ok (.aload_n 0, 1) := by decide +kernel
theorem dX10_worth_79 : decode cX10_worth 79 = .ok (.iload_n 1, 1) := by decide +kernel
theorem dX10_worth_80 : decode cX10_worth 80 = .ok (.iconst 2, 1) := by decide +kernel
theorem dX10_worth_81 : decode cX10_worth 81 = .ok (.invokevirtual 92, 3) := by decide +kernel
theorem dX10_worth_84 : decode cX10_worth 84 = .ok (.ireturn, 1) := by decide +kernel
theorem dX10_worth_85 : decode cX10_worth 85 = .ok (.iload_n 2, 1) := by decide +kernel
theorem dX10_worth_86 : decode cX10_worth 86 = .ok (.ireturn, 1) := by decide +kernel
theorem dX10_place_0 : decode cX10_place 0 = .ok (.iload_n 1, 1) := by decide +kernel
theorem dX10_place_1 : decode cX10_place 1 = .ok (.invokestatic 116, 3) := by decide +kernel
theorem dX10_place_4 : decode cX10_place 4 = .ok (.ifCond .eq 40, 3) := by decide +kernel
theorem dX10_place_7 : decode cX10_place 7 = .ok (.iload_n 2, 1) := by decide +kernel
theorem dX10_place_8 : decode cX10_place 8 = .ok (.i2l, 1) := by decide +kernel
theorem dX10_place_9 : decode cX10_place 9 = .ok (.lconst 0, 1) := by decide +kernel
theorem dX10_place_10 : decode cX10_place 10 = .ok (.ldc2_w 120, 3) := by decide +kernel
theorem dX10_place_13 : decode cX10_place 13 = .ok (.invokestatic 87, 3) := by decide +kernel
theorem dX10_place_16 : decode cX10_place 16 = .ok (.ifCond .eq 28, 3) := by decide +kernel
theorem dX10_place_19 : decode cX10_place 19 = .ok (.iload_n 3, 1) := by decide +kernel
theorem dX10_place_20 : decode cX10_place 20 = .ok (.i2l, 1) := by decide +kernel
theorem dX10_place_21 : decode cX10_place 21 = .ok (.lconst 0, 1) := by decide +kernel
theorem dX10_place_22 : decode cX10_place 22 = .ok (.ldc2_w 122, 3) := by decide +kernel
theorem dX10_place_25 : decode cX10_place 25 = .ok (.invokestatic 87, 3) := by decide +kernel
theorem dX10_place_28 : decode cX10_place 28 = .ok (.ifCond .eq 16, 3) := by decide +kernel
theorem dX10_place_31 : decode cX10_place 31 = .ok (.iload 4, 2) := by decide +kernel
theorem dX10_place_33 : decode cX10_place 33 = .ok (.i2l, 1) := by decide +kernel
theorem dX10_place_34 : decode cX10_place 34 = .ok (.lconst 0, 1) := by decide +kernel
theorem dX10_place_35 : decode cX10_place 35 = .ok (.ldc2_w 124, 3) := by decide +kernel
theorem dX10_place_38 : decode cX10_place 38 = .ok (.invokestatic 87, 3) := by decide +kernel
theorem dX10_place_41 : decode cX10_place 41 = .ok (.ifCond .ne 6, 3) := by decide +kernel
theorem dX10_place_44 : decode cX10_place 44 = .ok (.ldc 126, 2) := by decide +kernel
theorem dX10_place_46 : decode cX10_place 46 = .ok (.ireturn, 1) := by decide +kernel
theorem dX10_place_47 : decode cX10_place 47 = .ok (.aload_n 0, 1) := by decide +kernel
theorem dX10_place_48 : decode cX10_place 48 = .ok (.iload_n 1, 1) := by decide +kernel
theorem dX10_place_49 : decode cX10_place 49 = .ok (.iconst 0, 1) := by decide +kernel
theorem dX10_place_50 : decode cX10_place 50 = .ok (.invokevirtual 92, 3) := by decide +kernel
theorem dX10_place_53 : decode cX10_place 53 = .ok (.istore 5, 2) := by decide +kernel
theorem dX10_place_55 : decode cX10_place 55 = .ok (.aload_n 0, 1) := by decide +kernel
theorem dX10_place_56 : decode cX10_place 56 = .ok (.iload_n 1, 1) := by decide +kernel
theorem dX10_place_57 : decode cX10_place 57 = .ok (.iconst 0, 1) := by decide +kernel
theorem dX10_place_58 : decode cX10_place 58 = .ok (.iload_n 2, 1) := by decide +kernel
theorem dX10_place_59 : decode cX10_place 59 = .ok (.invokevirtual 127, 3) := by decide +kernel
theorem dX10_place_62 : decode cX10_place 62 = .ok (.aload_n 0, 1) := by decide +kernel
theorem dX10_place_63 : decode cX10_place 63 = .ok (.iload_n 1, 1) := by decide +kernel
theorem dX10_place_64 : decode cX10_place 64 = .ok (.iconst 1, 1) := by decide +kernel
theorem dX10_place_65 : decode cX10_place 65 = .ok (.iload_n 3, 1) := by decide +kernel
theorem dX10_place_66 : decode cX10_place 66 = .ok (.invokevirtual 127, 3) := by decide +kernel
theorem dX10_place_69 : decode cX10_place 69 = .ok (.aload_n 0, 1) := by decide +kernel
theorem dX10_place_70 : decode cX10_place 70 = .ok (.iload_n 1, 1) := by decide +kernel
theorem dX10_place_71 : decode cX10_place 71 = .ok (.iconst 2, 1) := by decide +kernel
theorem dX10_place_72 : decode cX10_place 72 = .ok (.iload 4, 2) := by decide +kernel
theorem dX10_place_74 : decode cX10_place 74 = .ok (.invokevirtual 127, 3) := by decide +kernel
theorem dX10_place_77 : decode cX10_place 77 = .ok (.iload 5, 2) := by decide +kernel
theorem dX10_place_79 : decode cX10_place 79 = .ok (.ireturn, 1) := by decide +kernel
theorem dX10_told_0 : decode cX10_told 0 = .ok (.iload_n 1, 1) := by decide +kernel
theorem dX10_told_1 : decode cX10_told 1 = .ok (.invokestatic 116, 3) := by decide +kernel
theorem dX10_told_4 : decode cX10_told 4 = .ok (.ifCond .ne 6, 3) := by decide +kernel
theorem dX10_told_7 : decode cX10_told 7 = .ok (.ldc 126, 2) := by decide +kernel
theorem dX10_told_9 : decode cX10_told 9 = .ok (.ireturn, 1) := by decide +kernel
theorem dX10_told_10 : decode cX10_told 10 = .ok (.iload_n 2, 1) := by decide +kernel
theorem dX10_told_11 : decode cX10_told 11 = .ok (.tableswitch 82 0 7 #[45, 45, 45, 52, 58, 64, 70, 76], 45) := by decide +kernel
theorem dX10_told_56 : decode cX10_told 56 = .ok (.aload_n 0, 1) := by decide +kernel
theorem dX10_told_57 : decode cX10_told 57 = .ok (.iload_n 1, 1) := by decide +kernel
theorem dX10_told_58 : decode cX10_told 58 = .ok (.iload_n 2, 1) := by decide +kernel
theorem dX10_told_59 : decode cX10_told 59 = .ok (.invokevirtual 92, 3) := by decide +kernel
theorem dX10_told_62 : decode cX10_told 62 = .ok (.ireturn, 1) := by decide +kernel
theorem dX10_told_63 : decode cX10_told 63 = .ok (.aload_n 0, 1) := by decide +kernel
theorem dX10_told_64 : decode cX10_told 64 = .ok (.iload_n 1, 1) := by decide +kernel
theorem dX10_told_65 : decode cX10_told 65 = .ok (.invokevirtual 106, 3) := by decide +kernel
theorem dX10_told_68 : decode cX10_told 68 = .ok (.ireturn, 1) := by decide +kernel
theorem dX10_told_69 : decode cX10_told 69 = .ok (.aload_n 0, 1) := by decide +kernel
theorem dX10_told_70 : decode cX10_told 70 = .ok (.iload_n 1, 1) := by decide +kernel
theorem dX10_told_71 : decode cX10_told 71 = .ok (.invokevirtual 109, 3) := by decide +kernel
theorem dX10_told_74 : decode cX10_told 74 = .ok (.ireturn, 1) := by decide +kernel
theorem dX10_told_75 : decode cX10_told 75 = .ok (.aload_n 0, 1) := by decide +kernel
theorem dX10_told_76 : decode cX10_told 76 = .ok (.iload_n 1, 1) := by decide +kernel
theorem dX10_told_77 : decode cX10_told 77 = .ok (.invokevirtual 131, 3) := by decide +kernel
theorem dX10_told_80 : decode cX10_told 80 = .ok (.ireturn, 1) := by decide +kernel
theorem dX10_told_81 : decode cX10_told 81 = .ok (.aload_n 0, 1) := by decide +kernel
theorem dX10_told_82 : decode cX10_told 82 = .ok (.iload_n 1, 1) := by decide +kernel
theorem dX10_told_83 : decode cX10_told 83 = .ok (.invokevirtual 134, 3) := by decide +kernel
theorem dX10_told_86 : decode cX10_told 86 = .ok (.ireturn, 1) := by decide +kernel
theorem dX10_told_87 : decode cX10_told 87 = .ok (.aload_n 0, 1) := by decide +kernel
theorem dX10_told_88 : decode cX10_told 88 = .ok (.iload_n 1, 1) := by decide +kernel
theorem dX10_told_89 : decode cX10_told 89 = .ok (.invokevirtual 137, 3) := by decide +kernel
theorem dX10_told_92 : decode cX10_told 92 = .ok (.ireturn, 1) := by decide +kernel
theorem dX10_told_93 : decode cX10_told 93 = .ok (.ldc 126, 2) := by decide +kernel
theorem dX10_told_95 : decode cX10_told 95 = .ok (.ireturn, 1) := by decide +kernel
theorem dX10_isOf_0 : decode cX10_isOf 0 = .ok (.iload_n 0, 1) := by decide +kernel
theorem dX10_isOf_1 : decode cX10_isOf 1 = .ok (.iload_n 1, 1) := by decide +kernel
theorem dX10_isOf_2 : decode cX10_isOf 2 = .ok (.if_icmp .eq 27, 3) := by decide +kernel
theorem dX10_isOf_5 : decode cX10_isOf 5 = .ok (.iload_n 1, 1) := by decide +kernel
theorem dX10_isOf_6 : decode cX10_isOf 6 = .ok (.ifCond .eq 23, 3) := by decide +kernel
theorem dX10_isOf_9 : decode cX10_isOf 9 = .ok (.iload_n 1, 1) := by decide +kernel
theorem dX10_isOf_10 : decode cX10_isOf 10 = .ok (.iconst 1, 1) := by decide +kernel
theorem dX10_isOf_11 : decode cX10_isOf 11 = .ok (.if_icmp .ne 8, 3) := by decide +kernel
theorem dX10_isOf_14 : decode cX10_isOf 14 = .ok (.iload_n 0, 1) := by decide +kernel
theorem dX10_isOf_15 : decode cX10_isOf 15 = .ok (.iconst 3, 1) := by decide +kernel
theorem dX10_isOf_16 : decode cX10_isOf 16 = .ok (.if_icmp .eq 13, 3) := by decide +kernel
theorem dX10_isOf_19 : decode cX10_isOf 19 = .ok (.iload_n 1, 1) := by decide +kernel
theorem dX10_isOf_20 : decode cX10_isOf 20 = .ok (.iconst 2, 1) := by decide +kernel
theorem dX10_isOf_21 : decode cX10_isOf 21 = .ok (.if_icmp .ne 12, 3) := by decide +kernel
theorem dX10_isOf_24 : decode cX10_isOf 24 = .ok (.iload_n 0, 1) := by decide +kernel
theorem dX10_isOf_25 : decode cX10_isOf 25 = .ok (.iconst 4, 1) := by decide +kernel
theorem dX10_isOf_26 : decode cX10_isOf 26 = .ok (.if_icmp .ne 7, 3) := by decide +kernel
theorem dX10_isOf_29 : decode cX10_isOf 29 = .ok (.iconst 1, 1) := by decide +kernel
theorem dX10_isOf_30 : decode cX10_isOf 30 = .ok (.goto 4, 3) := by decide +kernel
theorem dX10_isOf_33 : decode cX10_isOf 33 = .ok (.iconst 0, 1) := by decide +kernel
theorem dX10_isOf_34 : decode cX10_isOf 34 = .ok (.ireturn, 1) := by decide +kernel
theorem dX10_as_0 : decode cX10_as 0 = .ok (.iload_n 1, 1) := by decide +kernel
theorem dX10_as_1 : decode cX10_as 1 = .ok (.invokestatic 116, 3) := by decide +kernel
theorem dX10_as_4 : decode cX10_as 4 = .ok (.ifCond .eq 15, 3) := by decide +kernel
theorem dX10_as_7 : decode cX10_as 7 = .ok (.iload_n 2, 1) := by decide +kernel
theorem dX10_as_8 : decode cX10_as 8 = .ok (.i2l, 1) := by decide +kernel
theorem dX10_as_9 : decode cX10_as 9 = .ok (.lconst 0, 1) := by decide +kernel
theorem dX10_as_10 : decode cX10_as 10 = .ok (.ldc2_w 120, 3) := by decide +kernel
theorem dX10_as_13 : decode cX10_as 13 = .ok (.invokestatic 87, 3) := by decide +kernel
theorem dX10_as_16 : decode cX10_as 16 = .ok (.ifCond .ne 6, 3) := by decide +kernel
theorem dX10_as_19 : decode cX10_as 19 = .ok (.ldc 126, 2) := by decide +kernel
theorem dX10_as_21 : decode cX10_as 21 = .ok (.ireturn, 1) := by decide +kernel
theorem dX10_as_22 : decode cX10_as 22 = .ok (.aload_n 0, 1) := by decide +kernel
theorem dX10_as_23 : decode cX10_as 23 = .ok (.iload_n 1, 1) := by decide +kernel
theorem dX10_as_24 : decode cX10_as 24 = .ok (.iconst 0, 1) := by decide +kernel
theorem dX10_as_25 : decode cX10_as 25 = .ok (.invokevirtual 92, 3) := by decide +kernel
theorem dX10_as_28 : decode cX10_as 28 = .ok (.iload_n 2, 1) := by decide +kernel
theorem dX10_as_29 : decode cX10_as 29 = .ok (.invokestatic 140, 3) := by decide +kernel
theorem dX10_as_32 : decode cX10_as 32 = .ok (.ifCond .eq 12, 3) := by decide +kernel
theorem dX10_as_35 : decode cX10_as 35 = .ok (.aload_n 0, 1) := by decide +kernel
theorem dX10_as_36 : decode cX10_as 36 = .ok (.iload_n 1, 1) := by decide +kernel
theorem dX10_as_37 : decode cX10_as 37 = .ok (.iconst 1, 1) := by decide +kernel
theorem dX10_as_38 : decode cX10_as 38 = .ok (.invokevirtual 92, 3) := by decide +kernel
theorem dX10_as_41 : decode cX10_as 41 = .ok (.goto 5, 3) := by decide +kernel
theorem dX10_as_44 : decode cX10_as 44 = .ok (.ldc 144, 2) := by decide +kernel
theorem dX10_as_46 : decode cX10_as 46 = .ok (.ireturn, 1) := by decide +kernel
theorem dX10_turns_0 : decode cX10_turns 0 = .ok (.iload_n 1, 1) := by decide +kernel
theorem dX10_turns_1 : decode cX10_turns 1 = .ok (.invokestatic 116, 3) := by decide +kernel
theorem dX10_turns_4 : decode cX10_turns 4 = .ok (.ifCond .eq 29, 3) := by decide +kernel
theorem dX10_turns_7 : decode cX10_turns 7 = .ok (.iload_n 2, 1) := by decide +kernel
theorem dX10_turns_8 : decode cX10_turns 8 = .ok (.i2l, 1) := by decide +kernel
theorem dX10_turns_9 : decode cX10_turns 9 = .ok (.lconst 0, 1) := by decide +kernel
theorem dX10_turns_10 : decode cX10_turns 10 = .ok (.ldc2_w 120, 3) := by decide +kernel
theorem dX10_turns_13 : decode cX10_turns 13 = .ok (.invokestatic 87, 3) := by decide +kernel
theorem dX10_turns_16 : decode cX10_turns 16 = .ok (.ifCond .eq 17, 3) := by decide +kernel
theorem dX10_turns_19 : decode cX10_turns 19 = .ok (.aload_n 0, 1) := by decide +kernel
theorem dX10_turns_20 : decode cX10_turns 20 = .ok (.bipush 8, 2) := by decide +kernel
theorem dX10_turns_22 : decode cX10_turns 22 = .ok (.iconst 3, 1) := by decide +kernel
theorem dX10_turns_23 : decode cX10_turns 23 = .ok (.iload_n 1, 1) := by decide +kernel
theorem dX10_turns_24 : decode cX10_turns 24 = .ok (.imul, 1) := by decide +kernel
theorem dX10_turns_25 : decode cX10_turns 25 = .ok (.iadd, 1) := by decide +kernel
theorem dX10_turns_26 : decode cX10_turns 26 = .ok (.iload_n 2, 1) := by decide +kernel
theorem dX10_turns_27 : decode cX10_turns 27 = .ok (.invokevirtual 145, 3) := by decide +kernel
theorem dX10_turns_30 : decode cX10_turns 30 = .ok (.goto 5, 3) := by decide +kernel
theorem dX10_turns_33 : decode cX10_turns 33 = .ok (.ldc 126, 2) := by decide +kernel
theorem dX10_turns_35 : decode cX10_turns 35 = .ok (.ireturn, 1) := by decide +kernel
theorem dX10_set_0 : decode cX10_set 0 = .ok (.iload_n 1, 1) := by decide +kernel
theorem dX10_set_1 : decode cX10_set 1 = .ok (.invokestatic 116, 3) := by decide +kernel
theorem dX10_set_4 : decode cX10_set 4 = .ok (.ifCond .eq 35, 3) := by decide +kernel
theorem dX10_set_7 : decode cX10_set 7 = .ok (.iload_n 2, 1) := by decide +kernel
theorem dX10_set_8 : decode cX10_set 8 = .ok (.i2l, 1) := by decide +kernel
theorem dX10_set_9 : decode cX10_set 9 = .ok (.lconst 0, 1) := by decide +kernel
theorem dX10_set_10 : decode cX10_set 10 = .ok (.lconst 1, 1) := by decide +kernel
theorem dX10_set_11 : decode cX10_set 11 = .ok (.invokestatic 87, 3) := by decide +kernel
theorem dX10_set_14 : decode cX10_set 14 = .ok (.ifCond .eq 25, 3) := by decide +kernel
theorem dX10_set_17 : decode cX10_set 17 = .ok (.iload_n 3, 1) := by decide +kernel
theorem dX10_set_18 : decode cX10_set 18 = .ok (.i2l, 1) := by decide +kernel
theorem dX10_set_19 : decode cX10_set 19 = .ok (.lconst 0, 1) := by decide +kernel
theorem dX10_set_20 : decode cX10_set 20 = .ok (.iload_n 2, 1) := by decide +kernel
theorem dX10_set_21 : decode cX10_set 21 = .ok (.ifCond .ne 9, 3) := by decide +kernel
theorem dX10_set_24 : decode cX10_set 24 = .ok (.ldc2_w 122, 3) := by decide +kernel
theorem dX10_set_27 : decode cX10_set 27 = .ok (.goto 6, 3) := by decide +kernel
theorem dX10_set_30 : decode cX10_set 30 = .ok (.ldc2_w 124, 3) := by decide +kernel
theorem dX10_set_33 : decode cX10_set 33 = .ok (.invokestatic 87, 3) := by decide +kernel
theorem dX10_set_36 : decode cX10_set 36 = .ok (.ifCond .ne 6, 3) := by decide +kernel
theorem dX10_set_39 : decode cX10_set 39 = .ok (.ldc 126, 2) := by decide +kernel
theorem dX10_set_41 : decode cX10_set 41 = .ok (.ireturn, 1) := by decide +kernel
theorem dX10_set_42 : decode cX10_set 42 = .ok (.aload_n 0, 1) := by decide +kernel
theorem dX10_set_43 : decode cX10_set 43 = .ok (.bipush 8, 2) := by decide +kernel
theorem dX10_set_45 : decode cX10_set 45 = .ok (.iconst 3, 1) := by decide +kernel
theorem dX10_set_46 : decode cX10_set 46 = .ok (.iload_n 1, 1) := by decide +kernel
theorem dX10_set_47 : decode cX10_set 47 = .ok (.imul, 1) := by decide +kernel
theorem dX10_set_48 : decode cX10_set 48 = .ok (.iadd, 1) := by decide +kernel
theorem dX10_set_49 : decode cX10_set 49 = .ok (.iconst 1, 1) := by decide +kernel
theorem dX10_set_50 : decode cX10_set 50 = .ok (.iadd, 1) := by decide +kernel
theorem dX10_set_51 : decode cX10_set 51 = .ok (.iload_n 2, 1) := by decide +kernel
theorem dX10_set_52 : decode cX10_set 52 = .ok (.iadd, 1) := by decide +kernel
theorem dX10_set_53 : decode cX10_set 53 = .ok (.iload_n 3, 1) := by decide +kernel
theorem dX10_set_54 : decode cX10_set 54 = .ok (.invokevirtual 145, 3) := by decide +kernel
theorem dX10_set_57 : decode cX10_set 57 = .ok (.ireturn, 1) := by decide +kernel
theorem dX10_today_0 : decode cX10_today 0 = .ok (.iload_n 1, 1) := by decide +kernel
theorem dX10_today_1 : decode cX10_today 1 = .ok (.i2l, 1) := by decide +kernel
theorem dX10_today_2 : decode cX10_today 2 = .ok (.lconst 0, 1) := by decide +kernel
theorem dX10_today_3 : decode cX10_today 3 = .ok (.ldc2_w 148, 3) := by decide +kernel
theorem dX10_today_6 : decode cX10_today 6 = .ok (.invokestatic 87, 3) := by decide +kernel
theorem dX10_today_9 : decode cX10_today 9 = .ok (.ifCond .eq 36, 3) := by decide +kernel
theorem dX10_today_12 : decode cX10_today 12 = .ok (.iload_n 2, 1) := by decide +kernel
theorem dX10_today_13 : decode cX10_today 13 = .ok (.i2l, 1) := by decide +kernel
theorem dX10_today_14 : decode cX10_today 14 = .ok (.lconst 0, 1) := by decide +kernel
theorem dX10_today_15 : decode cX10_today 15 = .ok (.iload_n 1, 1) := by decide +kernel
theorem dX10_today_16 : decode cX10_today 16 = .ok (.ifCond .ne 9, 3) := by decide +kernel
theorem dX10_today_19 : decode cX10_today 19 = .ok (.ldc2_w 120, 3) := by decide +kernel
theorem dX10_today_22 : decode cX10_today 22 = .ok (.goto 17, 3) := by decide +kernel
theorem dX10_today_25 : decode cX10_today 25 = .ok (.iload_n 1, 1) := by decide +kernel
theorem dX10_today_26 : decode cX10_today 26 = .ok (.iconst 1, 1) := by decide +kernel
theorem dX10_today_27 : decode cX10_today 27 = .ok (.if_icmp .ne 9, 3) := by decide +kernel
theorem dX10_today_30 : decode cX10_today 30 = .ok (.ldc2_w 150, 3) := by decide +kernel
theorem dX10_today_33 : decode cX10_today 33 = .ok (.goto 6, 3) := by decide +kernel
theorem dX10_today_36 : decode cX10_today 36 = .ok (.ldc2_w 152, 3) := by decide +kernel
theorem dX10_today_39 : decode cX10_today 39 = .ok (.invokestatic 87, 3) := by decide +kernel
theorem dX10_today_42 : decode cX10_today 42 = .ok (.ifCond .ne 6, 3) := by decide +kernel
theorem dX10_today_45 : decode cX10_today 45 = .ok (.ldc 126, 2) := by decide +kernel
theorem dX10_today_47 : decode cX10_today 47 = .ok (.ireturn, 1) := by decide +kernel
theorem dX10_today_48 : decode cX10_today 48 = .ok (.aload_n 0, 1) := by decide +kernel
theorem dX10_today_49 : decode cX10_today 49 = .ok (.iconst 2, 1) := by decide +kernel
theorem dX10_today_50 : decode cX10_today 50 = .ok (.iload_n 1, 1) := by decide +kernel
theorem dX10_today_51 : decode cX10_today 51 = .ok (.iadd, 1) := by decide +kernel
theorem dX10_today_52 : decode cX10_today 52 = .ok (.iload_n 2, 1) := by decide +kernel
theorem dX10_today_53 : decode cX10_today 53 = .ok (.invokevirtual 145, 3) := by decide +kernel
theorem dX10_today_56 : decode cX10_today 56 = .ok (.ireturn, 1) := by decide +kernel
theorem dX10_allLoad_0 : decode cX10_allLoad 0 = .ok (.iconst 0, 1) := by decide +kernel
theorem dX10_allLoad_1 : decode cX10_allLoad 1 = .ok (.istore_n 1, 1) := by decide +kernel
theorem dX10_allLoad_2 : decode cX10_allLoad 2 = .ok (.iconst 0, 1) := by decide +kernel
theorem dX10_allLoad_3 : decode cX10_allLoad 3 = .ok (.istore_n 2, 1) := by decide +kernel
theorem dX10_allLoad_4 : decode cX10_allLoad 4 = .ok (.iload_n 2, 1) := by decide +kernel
theorem dX10_allLoad_5 : decode cX10_allLoad 5 = .ok (.bipush 30, 2) := by decide +kernel
theorem dX10_allLoad_7 : decode cX10_allLoad 7 = .ok (.if_icmp .ge 18, 3) := by decide +kernel
theorem dX10_allLoad_10 : decode cX10_allLoad 10 = .ok (.iload_n 1, 1) := by decide +kernel
theorem dX10_allLoad_11 : decode cX10_allLoad 11 = .ok (.aload_n 0, 1) := by decide +kernel
theorem dX10_allLoad_12 : decode cX10_allLoad 12 = .ok (.iload_n 2, 1) := by decide +kernel
theorem dX10_allLoad_13 : decode cX10_allLoad 13 = .ok (.iconst 2, 1) := by decide +kernel
theorem dX10_allLoad_14 : decode cX10_allLoad 14 = .ok (.invokevirtual 92, 3) := by decide +kernel
theorem dX10_allLoad_17 : decode cX10_allLoad 17 = .ok (.iadd, 1) := by decide +kernel
theorem dX10_allLoad_18 : decode cX10_allLoad 18 = .ok (.istore_n 1, 1) := by decide +kernel
theorem dX10_allLoad_19 : decode cX10_allLoad 19 = .ok (.iinc 2 1, 3) := by decide +kernel
theorem dX10_allLoad_22 : decode cX10_allLoad 22 = .ok (.goto (-18), 3) := by decide +kernel
theorem dX10_allLoad_25 : decode cX10_allLoad 25 = .ok (.iload_n 1, 1) := by decide +kernel
theorem dX10_allLoad_26 : decode cX10_allLoad 26 = .ok (.ireturn, 1) := by decide +kernel
theorem dX10_deal_0 : decode cX10_deal 0 = .ok (.iconst 0, 1) := by decide +kernel
theorem dX10_deal_1 : decode cX10_deal 1 = .ok (.istore_n 1, 1) := by decide +kernel
theorem dX10_deal_2 : decode cX10_deal 2 = .ok (.iload_n 1, 1) := by decide +kernel
theorem dX10_deal_3 : decode cX10_deal 3 = .ok (.bipush 30, 2) := by decide +kernel
theorem dX10_deal_5 : decode cX10_deal 5 = .ok (.if_icmp .ge 48, 3) := by decide +kernel
theorem dX10_deal_8 : decode cX10_deal 8 = .ok (.aload_n 0, 1) := by decide +kernel
theorem dX10_deal_9 : decode cX10_deal 9 = .ok (.iload_n 1, 1) := by decide +kernel
theorem dX10_deal_10 : decode cX10_deal 10 = .ok (.iconst 0, 1) := by decide +kernel
theorem dX10_deal_11 : decode cX10_deal 11 = .ok (.aload_n 0, 1) := by decide +kernel
theorem dX10_deal_12 : decode cX10_deal 12 = .ok (.invokevirtual 154, 3) := by decide +kernel
theorem dX10_deal_15 : decode cX10_deal 15 = .ok (.bipush 6, 2) := by decide +kernel
theorem dX10_deal_17 : decode cX10_deal 17 = .ok (.irem, 1) := by decide +kernel
theorem dX10_deal_18 : decode cX10_deal 18 = .ok (.invokevirtual 127, 3) := by decide +kernel
theorem dX10_deal_21 : decode cX10_deal 21 = .ok (.aload_n 0, 1) := by decide +kernel
theorem dX10_deal_22 : decode cX10_deal 22 = .ok (.iload_n 1, 1) := by decide +kernel
theorem dX10_deal_23 : decode cX10_deal 23 = .ok (.iconst 1, 1) := by decide +kernel
theorem dX10_deal_24 : decode cX10_deal 24 = .ok (.aload_n 0, 1) := by decide +kernel
theorem dX10_deal_25 : decode cX10_deal 25 = .ok (.invokevirtual 154, 3) := by decide +kernel
theorem dX10_deal_28 : decode cX10_deal 28 = .ok (.bipush 50, 2) := by decide +kernel
theorem dX10_deal_30 : decode cX10_deal 30 = .ok (.irem, 1) := by decide +kernel
theorem dX10_deal_31 : decode cX10_deal 31 = .ok (.invokevirtual 127, 3) := by decide +kernel
theorem dX10_deal_34 : decode cX10_deal 34 = .ok (.aload_n 0, 1) := by decide +kernel
theorem dX10_deal_35 : decode cX10_deal 35 = .ok (.iload_n 1, 1) := by decide +kernel
theorem dX10_deal_36 : decode cX10_deal 36 = .ok (.iconst 2, 1) := by decide +kernel
theorem dX10_deal_37 : decode cX10_deal 37 = .ok (.aload_n 0, 1) := by decide +kernel
theorem dX10_deal_38 : decode cX10_deal 38 = .ok (.invokevirtual 154, 3) := by decide +kernel
theorem dX10_deal_41 : decode cX10_deal 41 = .ok (.bipush 40, 2) := by decide +kernel
theorem dX10_deal_43 : decode cX10_deal 43 = .ok (.irem, 1) := by decide +kernel
theorem dX10_deal_44 : decode cX10_deal 44 = .ok (.invokevirtual 127, 3) := by decide +kernel
theorem dX10_deal_47 : decode cX10_deal 47 = .ok (.iinc 1 1, 3) := by decide +kernel
theorem dX10_deal_50 : decode cX10_deal 50 = .ok (.goto (-48), 3) := by decide +kernel
theorem dX10_deal_53 : decode cX10_deal 53 = .ok (.aload_n 0, 1) := by decide +kernel
theorem dX10_deal_54 : decode cX10_deal 54 = .ok (.invokevirtual 157, 3) := by decide +kernel
theorem dX10_deal_57 : decode cX10_deal 57 = .ok (.ireturn, 1) := by decide +kernel
theorem dX10_seed_0 : decode cX10_seed 0 = .ok (.aload_n 0, 1) := by decide +kernel
theorem dX10_seed_1 : decode cX10_seed 1 = .ok (.bipush 6, 2) := by decide +kernel
theorem dX10_seed_3 : decode cX10_seed 3 = .ok (.iload_n 1, 1) := by decide +kernel
theorem dX10_seed_4 : decode cX10_seed 4 = .ok (.invokevirtual 145, 3) := by decide +kernel
theorem dX10_seed_7 : decode cX10_seed 7 = .ok (.ireturn, 1) := by decide +kernel
theorem dX10_holdsLoads_0 : decode cX10_holdsLoads 0 = .ok (.iconst 0, 1) := by decide +kernel
