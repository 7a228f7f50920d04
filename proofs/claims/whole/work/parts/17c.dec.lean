/-! what stands at each place of the code (by wip/whole/gen17.py) -/
theorem d119_0 : decode (cod 119) 0 = .ok (.aload_n 0, 1) := by decide +kernel
theorem d119_1 : decode (cod 119) 1 = .ok (.getfield 12, 3) := by decide +kernel
theorem d119_4 : decode (cod 119) 4 = .ok (.getfield 44, 3) := by decide +kernel
theorem d119_7 : decode (cod 119) 7 = .ok (.iload_n 2, 1) := by decide +kernel
theorem d119_8 : decode (cod 119) 8 = .ok (.invokevirtual 62, 3) := by decide +kernel
theorem d119_11 : decode (cod 119) 11 = .ok (.ifCond .eq 12, 3) := by decide +kernel
theorem d119_14 : decode (cod 119) 14 = .ok (.iload_n 1, 1) := by decide +kernel
theorem d119_15 : decode (cod 119) 15 = .ok (.iconst 3, 1) := by decide +kernel
theorem d119_16 : decode (cod 119) 16 = .ok (.iconst 4, 1) := by decide +kernel
theorem d119_17 : decode (cod 119) 17 = .ok (.invokestatic 40, 3) := by decide +kernel
theorem d119_20 : decode (cod 119) 20 = .ok (.ifCond .ne 5, 3) := by decide +kernel
theorem d119_23 : decode (cod 119) 23 = .ok (.iconst (-1), 1) := by decide +kernel
theorem d119_24 : decode (cod 119) 24 = .ok (.ireturn, 1) := by decide +kernel
theorem d119_25 : decode (cod 119) 25 = .ok (.aload_n 0, 1) := by decide +kernel
theorem d119_26 : decode (cod 119) 26 = .ok (.iload_n 3, 1) := by decide +kernel
theorem d119_27 : decode (cod 119) 27 = .ok (.invokevirtual 140, 3) := by decide +kernel
theorem d119_30 : decode (cod 119) 30 = .ok (.ifCond .ne 6, 3) := by decide +kernel
theorem d119_33 : decode (cod 119) 33 = .ok (.bipush (-2), 2) := by decide +kernel
theorem d119_35 : decode (cod 119) 35 = .ok (.ireturn, 1) := by decide +kernel
theorem d119_36 : decode (cod 119) 36 = .ok (.aload_n 0, 1) := by decide +kernel
theorem d119_37 : decode (cod 119) 37 = .ok (.getfield 12, 3) := by decide +kernel
theorem d119_40 : decode (cod 119) 40 = .ok (.getfield 143, 3) := by decide +kernel
theorem d119_43 : decode (cod 119) 43 = .ok (.getfield 147, 3) := by decide +kernel
theorem d119_46 : decode (cod 119) 46 = .ok (.bipush 60, 2) := by decide +kernel
theorem d119_48 : decode (cod 119) 48 = .ok (.if_icmp .lt 6, 3) := by decide +kernel
theorem d119_51 : decode (cod 119) 51 = .ok (.bipush (-4), 2) := by decide +kernel
theorem d119_53 : decode (cod 119) 53 = .ok (.ireturn, 1) := by decide +kernel
theorem d119_54 : decode (cod 119) 54 = .ok (.aload_n 0, 1) := by decide +kernel
theorem d119_55 : decode (cod 119) 55 = .ok (.getfield 12, 3) := by decide +kernel
theorem d119_58 : decode (cod 119) 58 = .ok (.getfield 143, 3) := by decide +kernel
theorem d119_61 : decode (cod 119) 61 = .ok (.aload_n 0, 1) := by decide +kernel
theorem d119_62 : decode (cod 119) 62 = .ok (.getfield 12, 3) := by decide +kernel
theorem d119_65 : decode (cod 119) 65 = .ok (.getfield 44, 3) := by decide +kernel
theorem d119_68 : decode (cod 119) 68 = .ok (.iload_n 1, 1) := by decide +kernel
theorem d119_69 : decode (cod 119) 69 = .ok (.iload_n 2, 1) := by decide +kernel
theorem d119_70 : decode (cod 119) 70 = .ok (.bipush 12, 2) := by decide +kernel
theorem d119_72 : decode (cod 119) 72 = .ok (.iload_n 3, 1) := by decide +kernel
theorem d119_73 : decode (cod 119) 73 = .ok (.aload_n 0, 1) := by decide +kernel
theorem d119_74 : decode (cod 119) 74 = .ok (.getfield 12, 3) := by decide +kernel
theorem d119_77 : decode (cod 119) 77 = .ok (.getfield 153, 3) := by decide +kernel
theorem d119_80 : decode (cod 119) 80 = .ok (.invokevirtual 156, 3) := by decide +kernel
theorem d119_83 : decode (cod 119) 83 = .ok (.ireturn, 1) := by decide +kernel
theorem d120_0 : decode (cod 120) 0 = .ok (.aload_n 0, 1) := by decide +kernel
theorem d120_1 : decode (cod 120) 1 = .ok (.getfield 12, 3) := by decide +kernel
theorem d120_4 : decode (cod 120) 4 = .ok (.getfield 143, 3) := by decide +kernel
theorem d120_7 : decode (cod 120) 7 = .ok (.iload_n 1, 1) := by decide +kernel
theorem d120_8 : decode (cod 120) 8 = .ok (.invokevirtual 159, 3) := by decide +kernel
theorem d120_11 : decode (cod 120) 11 = .ok (.ifCond .ne 5, 3) := by decide +kernel
theorem d120_14 : decode (cod 120) 14 = .ok (.iconst (-1), 1) := by decide +kernel
theorem d120_15 : decode (cod 120) 15 = .ok (.ireturn, 1) := by decide +kernel
theorem d120_16 : decode (cod 120) 16 = .ok (.iload_n 2, 1) := by decide +kernel
theorem d120_17 : decode (cod 120) 17 = .ok (.tableswitch 183 0 7 #[47, 60, 73, 97, 109, 128, 147, 166], 47) := by decide +kernel
theorem d120_64 : decode (cod 120) 64 = .ok (.aload_n 0, 1) := by decide +kernel
theorem d120_65 : decode (cod 120) 65 = .ok (.getfield 12, 3) := by decide +kernel
theorem d120_68 : decode (cod 120) 68 = .ok (.getfield 143, 3) := by decide +kernel
theorem d120_71 : decode (cod 120) 71 = .ok (.getfield 160, 3) := by decide +kernel
theorem d120_74 : decode (cod 120) 74 = .ok (.iload_n 1, 1) := by decide +kernel
theorem d120_75 : decode (cod 120) 75 = .ok (.iaload, 1) := by decide +kernel
theorem d120_76 : decode (cod 120) 76 = .ok (.ireturn, 1) := by decide +kernel
theorem d120_77 : decode (cod 120) 77 = .ok (.aload_n 0, 1) := by decide +kernel
theorem d120_78 : decode (cod 120) 78 = .ok (.getfield 12, 3) := by decide +kernel
theorem d120_81 : decode (cod 120) 81 = .ok (.getfield 143, 3) := by decide +kernel
theorem d120_84 : decode (cod 120) 84 = .ok (.getfield 163, 3) := by decide +kernel
theorem d120_87 : decode (cod 120) 87 = .ok (.iload_n 1, 1) := by decide +kernel
theorem d120_88 : decode (cod 120) 88 = .ok (.iaload, 1) := by decide +kernel
theorem d120_89 : decode (cod 120) 89 = .ok (.ireturn, 1) := by decide +kernel
theorem d120_90 : decode (cod 120) 90 = .ok (.aload_n 0, 1) := by decide +kernel
theorem d120_91 : decode (cod 120) 91 = .ok (.getfield 12, 3) := by decide +kernel
theorem d120_94 : decode (cod 120) 94 = .ok (.iload_n 1, 1) := by decide +kernel
theorem d120_95 : decode (cod 120) 95 = .ok (.aload_n 0, 1) := by decide +kernel
theorem d120_96 : decode (cod 120) 96 = .ok (.getfield 12, 3) := by decide +kernel
theorem d120_99 : decode (cod 120) 99 = .ok (.getfield 143, 3) := by decide +kernel
theorem d120_102 : decode (cod 120) 102 = .ok (.getfield 166, 3) := by decide +kernel
theorem d120_105 : decode (cod 120) 105 = .ok (.iload_n 1, 1) := by decide +kernel
theorem d120_106 : decode (cod 120) 106 = .ok (.iaload, 1) := by decide +kernel
theorem d120_107 : decode (cod 120) 107 = .ok (.bipush 100, 2) := by decide +kernel
theorem d120_109 : decode (cod 120) 109 = .ok (.idiv, 1) := by decide +kernel
theorem d120_110 : decode (cod 120) 110 = .ok (.invokevirtual 169, 3) := by decide +kernel
theorem d120_113 : decode (cod 120) 113 = .ok (.ireturn, 1) := by decide +kernel
theorem d120_114 : decode (cod 120) 114 = .ok (.aload_n 0, 1) := by decide +kernel
theorem d120_115 : decode (cod 120) 115 = .ok (.getfield 12, 3) := by decide +kernel
theorem d120_118 : decode (cod 120) 118 = .ok (.getfield 143, 3) := by decide +kernel
theorem d120_121 : decode (cod 120) 121 = .ok (.iload_n 1, 1) := by decide +kernel
theorem d120_122 : decode (cod 120) 122 = .ok (.invokevirtual 172, 3) := by decide +kernel
theorem d120_125 : decode (cod 120) 125 = .ok (.ireturn, 1) := by decide +kernel
theorem d120_126 : decode (cod 120) 126 = .ok (.aload_n 0, 1) := by decide +kernel
theorem d120_127 : decode (cod 120) 127 = .ok (.getfield 12, 3) := by decide +kernel
theorem d120_130 : decode (cod 120) 130 = .ok (.getfield 143, 3) := by decide +kernel
theorem d120_133 : decode (cod 120) 133 = .ok (.iload_n 1, 1) := by decide +kernel
theorem d120_134 : decode (cod 120) 134 = .ok (.aload_n 0, 1) := by decide +kernel
theorem d120_135 : decode (cod 120) 135 = .ok (.getfield 12, 3) := by decide +kernel
theorem d120_138 : decode (cod 120) 138 = .ok (.getfield 44, 3) := by decide +kernel
theorem d120_141 : decode (cod 120) 141 = .ok (.invokevirtual 175, 3) := by decide +kernel
theorem d120_144 : decode (cod 120) 144 = .ok (.ireturn, 1) := by decide +kernel
theorem d120_145 : decode (cod 120) 145 = .ok (.aload_n 0, 1) := by decide +kernel
theorem d120_146 : decode (cod 120) 146 = .ok (.getfield 12, 3) := by decide +kernel
theorem d120_149 : decode (cod 120) 149 = .ok (.getfield 143, 3) := by decide +kernel
theorem d120_152 : decode (cod 120) 152 = .ok (.iload_n 1, 1) := by decide +kernel
theorem d120_153 : decode (cod 120) 153 = .ok (.aload_n 0, 1) := by decide +kernel
theorem d120_154 : decode (cod 120) 154 = .ok (.getfield 12, 3) := by decide +kernel
theorem d120_157 : decode (cod 120) 157 = .ok (.getfield 153, 3) := by decide +kernel
theorem d120_160 : decode (cod 120) 160 = .ok (.invokevirtual 179, 3) := by decide +kernel
theorem d120_163 : decode (cod 120) 163 = .ok (.ireturn, 1) := by decide +kernel
theorem d120_164 : decode (cod 120) 164 = .ok (.aload_n 0, 1) := by decide +kernel
theorem d120_165 : decode (cod 120) 165 = .ok (.getfield 12, 3) := by decide +kernel
theorem d120_168 : decode (cod 120) 168 = .ok (.getfield 143, 3) := by decide +kernel
theorem d120_171 : decode (cod 120) 171 = .ok (.iload_n 1, 1) := by decide +kernel
theorem d120_172 : decode (cod 120) 172 = .ok (.aload_n 0, 1) := by decide +kernel
theorem d120_173 : decode (cod 120) 173 = .ok (.getfield 12, 3) := by decide +kernel
theorem d120_176 : decode (cod 120) 176 = .ok (.getfield 44, 3) := by decide +kernel
theorem d120_179 : decode (cod 120) 179 = .ok (.invokevirtual 182, 3) := by decide +kernel
theorem d120_182 : decode (cod 120) 182 = .ok (.ireturn, 1) := by decide +kernel
theorem d120_183 : decode (cod 120) 183 = .ok (.aload_n 0, 1) := by decide +kernel
theorem d120_184 : decode (cod 120) 184 = .ok (.getfield 12, 3) := by decide +kernel
theorem d120_187 : decode (cod 120) 187 = .ok (.iload_n 1, 1) := by decide +kernel
theorem d120_188 : decode (cod 120) 188 = .ok (.invokevirtual 185, 3) := by decide +kernel
theorem d120_191 : decode (cod 120) 191 = .ok (.ifCond .eq 7, 3) := by decide +kernel
theorem d120_194 : decode (cod 120) 194 = .ok (.iconst 1, 1) := by decide +kernel
theorem d120_195 : decode (cod 120) 195 = .ok (.goto 4, 3) := by decide +kernel
theorem d120_198 : decode (cod 120) 198 = .ok (.iconst 0, 1) := by decide +kernel
theorem d120_199 : decode (cod 120) 199 = .ok (.ireturn, 1) := by decide +kernel
theorem d120_200 : decode (cod 120) 200 = .ok (.iconst (-1), 1) := by decide +kernel
theorem d120_201 : decode (cod 120) 201 = .ok (.ireturn, 1) := by decide +kernel
theorem d121_0 : decode (cod 121) 0 = .ok (.aload_n 0, 1) := by decide +kernel
theorem d121_1 : decode (cod 121) 1 = .ok (.getfield 12, 3) := by decide +kernel
theorem d121_4 : decode (cod 121) 4 = .ok (.getfield 143, 3) := by decide +kernel
theorem d121_7 : decode (cod 121) 7 = .ok (.iload_n 1, 1) := by decide +kernel
theorem d121_8 : decode (cod 121) 8 = .ok (.invokevirtual 159, 3) := by decide +kernel
theorem d121_11 : decode (cod 121) 11 = .ok (.ifCond .eq 12, 3) := by decide +kernel
theorem d121_14 : decode (cod 121) 14 = .ok (.iload_n 2, 1) := by decide +kernel
theorem d121_15 : decode (cod 121) 15 = .ok (.iconst 0, 1) := by decide +kernel
theorem d121_16 : decode (cod 121) 16 = .ok (.iconst 4, 1) := by decide +kernel
theorem d121_17 : decode (cod 121) 17 = .ok (.invokestatic 40, 3) := by decide +kernel
theorem d121_20 : decode (cod 121) 20 = .ok (.ifCond .ne 5, 3) := by decide +kernel
theorem d121_23 : decode (cod 121) 23 = .ok (.iconst (-1), 1) := by decide +kernel
theorem d121_24 : decode (cod 121) 24 = .ok (.ireturn, 1) := by decide +kernel
theorem d121_25 : decode (cod 121) 25 = .ok (.aload_n 0, 1) := by decide +kernel
theorem d121_26 : decode (cod 121) 26 = .ok (.getfield 12, 3) := by decide +kernel
theorem d121_29 : decode (cod 121) 29 = .ok (.getfield 143, 3) := by decide +kernel
theorem d121_32 : decode (cod 121) 32 = .ok (.getfield 160, 3) := by decide +kernel
theorem d121_35 : decode (cod 121) 35 = .ok (.iload_n 1, 1) := by decide +kernel
theorem d121_36 : decode (cod 121) 36 = .ok (.iaload, 1) := by decide +kernel
theorem d121_37 : decode (cod 121) 37 = .ok (.iload_n 2, 1) := by decide +kernel
theorem d121_38 : decode (cod 121) 38 = .ok (.invokestatic 188, 3) := by decide +kernel
theorem d121_41 : decode (cod 121) 41 = .ok (.ifCond .eq 18, 3) := by decide +kernel
theorem d121_44 : decode (cod 121) 44 = .ok (.aload_n 0, 1) := by decide +kernel
theorem d121_45 : decode (cod 121) 45 = .ok (.getfield 12, 3) := by decide +kernel
theorem d121_48 : decode (cod 121) 48 = .ok (.getfield 143, 3) := by decide +kernel
theorem d121_51 : decode (cod 121) 51 = .ok (.getfield 191, 3) := by decide +kernel
theorem d121_54 : decode (cod 121) 54 = .ok (.iload_n 1, 1) := by decide +kernel
theorem d121_55 : decode (cod 121) 55 = .ok (.iaload, 1) := by decide +kernel
theorem d121_56 : decode (cod 121) 56 = .ok (.goto 5, 3) := by decide +kernel
theorem d121_59 : decode (cod 121) 59 = .ok (.bipush (-6), 2) := by decide +kernel
theorem d121_61 : decode (cod 121) 61 = .ok (.ireturn, 1) := by decide +kernel
theorem d122_0 : decode (cod 122) 0 = .ok (.iload_n 1, 1) := by decide +kernel
theorem d122_1 : decode (cod 122) 1 = .ok (.iconst 1, 1) := by decide +kernel
theorem d122_2 : decode (cod 122) 2 = .ok (.sipush 200, 3) := by decide +kernel
theorem d122_5 : decode (cod 122) 5 = .ok (.invokestatic 40, 3) := by decide +kernel
theorem d122_8 : decode (cod 122) 8 = .ok (.ifCond .eq 17, 3) := by decide +kernel
theorem d122_11 : decode (cod 122) 11 = .ok (.aload_n 0, 1) := by decide +kernel
theorem d122_12 : decode (cod 122) 12 = .ok (.getfield 12, 3) := by decide +kernel
theorem d122_15 : decode (cod 122) 15 = .ok (.getfield 153, 3) := by decide +kernel
theorem d122_18 : decode (cod 122) 18 = .ok (.iload_n 1, 1) := by decide +kernel
theorem d122_19 : decode (cod 122) 19 = .ok (.iadd, 1) := by decide +kernel
theorem d122_20 : decode (cod 122) 20 = .ok (.ldc 194, 2) := by decide +kernel
theorem d122_22 : decode (cod 122) 22 = .ok (.if_icmp .lt 6, 3) := by decide +kernel
theorem d122_25 : decode (cod 122) 25 = .ok (.bipush (-2), 2) := by decide +kernel
theorem d122_27 : decode (cod 122) 27 = .ok (.ireturn, 1) := by decide +kernel
theorem d122_28 : decode (cod 122) 28 = .ok (.aload_n 0, 1) := by decide +kernel
theorem d122_29 : decode (cod 122) 29 = .ok (.getfield 19, 3) := by decide +kernel
theorem d122_32 : decode (cod 122) 32 = .ok (.aload_n 0, 1) := by decide +kernel
theorem d122_33 : decode (cod 122) 33 = .ok (.getfield 12, 3) := by decide +kernel
theorem d122_36 : decode (cod 122) 36 = .ok (.iload_n 1, 1) := by decide +kernel
theorem d122_37 : decode (cod 122) 37 = .ok (.invokevirtual 195, 3) := by decide +kernel
theorem d122_40 : decode (cod 122) 40 = .ok (.aload_n 0, 1) := by decide +kernel
theorem d122_41 : decode (cod 122) 41 = .ok (.getfield 12, 3) := by decide +kernel
theorem d122_44 : decode (cod 122) 44 = .ok (.getfield 153, 3) := by decide +kernel
theorem d122_47 : decode (cod 122) 47 = .ok (.ireturn, 1) := by decide +kernel
theorem d123_0 : decode (cod 123) 0 = .ok (.iload_n 2, 1) := by decide +kernel
theorem d123_1 : decode (cod 123) 1 = .ok (.iconst 1, 1) := by decide +kernel
theorem d123_2 : decode (cod 123) 2 = .ok (.if_icmp .ne 14, 3) := by decide +kernel
theorem d123_5 : decode (cod 123) 5 = .ok (.aload_n 0, 1) := by decide +kernel
theorem d123_6 : decode (cod 123) 6 = .ok (.getfield 12, 3) := by decide +kernel
theorem d123_9 : decode (cod 123) 9 = .ok (.getfield 143, 3) := by decide +kernel
theorem d123_12 : decode (cod 123) 12 = .ok (.invokevirtual 199, 3) := by decide +kernel
theorem d123_15 : decode (cod 123) 15 = .ok (.ireturn, 1) := by decide +kernel
theorem d123_16 : decode (cod 123) 16 = .ok (.iload_n 2, 1) := by decide +kernel
theorem d123_17 : decode (cod 123) 17 = .ok (.ifCond .ne 12, 3) := by decide +kernel
theorem d123_20 : decode (cod 123) 20 = .ok (.iload_n 1, 1) := by decide +kernel
theorem d123_21 : decode (cod 123) 21 = .ok (.iconst 0, 1) := by decide +kernel
theorem d123_22 : decode (cod 123) 22 = .ok (.iconst 3, 1) := by decide +kernel
theorem d123_23 : decode (cod 123) 23 = .ok (.invokestatic 40, 3) := by decide +kernel
theorem d123_26 : decode (cod 123) 26 = .ok (.ifCond .ne 5, 3) := by decide +kernel
theorem d123_29 : decode (cod 123) 29 = .ok (.iconst (-1), 1) := by decide +kernel
theorem d123_30 : decode (cod 123) 30 = .ok (.ireturn, 1) := by decide +kernel
theorem d123_31 : decode (cod 123) 31 = .ok (.aload_n 0, 1) := by decide +kernel
theorem d123_32 : decode (cod 123) 32 = .ok (.getfield 12, 3) := by decide +kernel
theorem d123_35 : decode (cod 123) 35 = .ok (.getfield 143, 3) := by decide +kernel
theorem d123_38 : decode (cod 123) 38 = .ok (.iload_n 1, 1) := by decide +kernel
theorem d123_39 : decode (cod 123) 39 = .ok (.invokevirtual 202, 3) := by decide +kernel
theorem d123_42 : decode (cod 123) 42 = .ok (.ireturn, 1) := by decide +kernel
theorem d124_0 : decode (cod 124) 0 = .ok (.aload_n 0, 1) := by decide +kernel
theorem d124_1 : decode (cod 124) 1 = .ok (.getfield 12, 3) := by decide +kernel
theorem d124_4 : decode (cod 124) 4 = .ok (.getfield 44, 3) := by decide +kernel
theorem d124_7 : decode (cod 124) 7 = .ok (.iload_n 1, 1) := by decide +kernel
theorem d124_8 : decode (cod 124) 8 = .ok (.invokevirtual 62, 3) := by decide +kernel
theorem d124_11 : decode (cod 124) 11 = .ok (.ifCond .eq 17, 3) := by decide +kernel
theorem d124_14 : decode (cod 124) 14 = .ok (.aload_n 0, 1) := by decide +kernel
theorem d124_15 : decode (cod 124) 15 = .ok (.getfield 12, 3) := by decide +kernel
theorem d124_18 : decode (cod 124) 18 = .ok (.getfield 143, 3) := by decide +kernel
theorem d124_21 : decode (cod 124) 21 = .ok (.iload_n 2, 1) := by decide +kernel
theorem d124_22 : decode (cod 124) 22 = .ok (.invokevirtual 159, 3) := by decide +kernel
theorem d124_25 : decode (cod 124) 25 = .ok (.ifCond .ne 5, 3) := by decide +kernel
theorem d124_28 : decode (cod 124) 28 = .ok (.iconst (-1), 1) := by decide +kernel
theorem d124_29 : decode (cod 124) 29 = .ok (.ireturn, 1) := by decide +kernel
theorem d124_30 : decode (cod 124) 30 = .ok (.aload_n 0, 1) := by decide +kernel
theorem d124_31 : decode (cod 124) 31 = .ok (.getfield 12, 3) := by decide +kernel
theorem d124_34 : decode (cod 124) 34 = .ok (.getfield 143, 3) := by decide +kernel
theorem d124_37 : decode (cod 124) 37 = .ok (.iload_n 1, 1) := by decide +kernel
theorem d124_38 : decode (cod 124) 38 = .ok (.iload_n 2, 1) := by decide +kernel
theorem d124_39 : decode (cod 124) 39 = .ok (.aload_n 0, 1) := by decide +kernel
theorem d124_40 : decode (cod 124) 40 = .ok (.getfield 12, 3) := by decide +kernel
theorem d124_43 : decode (cod 124) 43 = .ok (.getfield 44, 3) := by decide +kernel
theorem d124_46 : decode (cod 124) 46 = .ok (.invokevirtual 205, 3) := by decide +kernel
theorem d124_49 : decode (cod 124) 49 = .ok (.ifCond .ne 6, 3) := by decide +kernel
theorem d124_52 : decode (cod 124) 52 = .ok (.bipush (-3), 2) := by decide +kernel
theorem d124_54 : decode (cod 124) 54 = .ok (.ireturn, 1) := by decide +kernel
theorem d124_55 : decode (cod 124) 55 = .ok (.aload_n 0, 1) := by decide +kernel
theorem d124_56 : decode (cod 124) 56 = .ok (.getfield 12, 3) := by decide +kernel
theorem d124_59 : decode (cod 124) 59 = .ok (.getfield 143, 3) := by decide +kernel
theorem d124_62 : decode (cod 124) 62 = .ok (.getfield 209, 3) := by decide +kernel
theorem d124_65 : decode (cod 124) 65 = .ok (.iload_n 2, 1) := by decide +kernel
theorem d124_66 : decode (cod 124) 66 = .ok (.dup2, 1) := by decide +kernel
theorem d124_67 : decode (cod 124) 67 = .ok (.iaload, 1) := by decide +kernel
theorem d124_68 : decode (cod 124) 68 = .ok (.iconst 1, 1) := by decide +kernel
theorem d124_69 : decode (cod 124) 69 = .ok (.iload_n 1, 1) := by decide +kernel
theorem d124_70 : decode (cod 124) 70 = .ok (.ishl, 1) := by decide +kernel
theorem d124_71 : decode (cod 124) 71 = .ok (.ior, 1) := by decide +kernel
theorem d124_72 : decode (cod 124) 72 = .ok (.iastore, 1) := by decide +kernel
theorem d124_73 : decode (cod 124) 73 = .ok (.aload_n 0, 1) := by decide +kernel
theorem d124_74 : decode (cod 124) 74 = .ok (.getfield 12, 3) := by decide +kernel
theorem d124_77 : decode (cod 124) 77 = .ok (.getfield 143, 3) := by decide +kernel
theorem d124_80 : decode (cod 124) 80 = .ok (.getfield 209, 3) := by decide +kernel
theorem d124_83 : decode (cod 124) 83 = .ok (.iload_n 2, 1) := by decide +kernel
theorem d124_84 : decode (cod 124) 84 = .ok (.iaload, 1) := by decide +kernel
theorem d124_85 : decode (cod 124) 85 = .ok (.invokestatic 82, 3) := by decide +kernel
theorem d124_88 : decode (cod 124) 88 = .ok (.ireturn, 1) := by decide +kernel
theorem d125_0 : decode (cod 125) 0 = .ok (.aload_n 0, 1) := by decide +kernel
theorem d125_1 : decode (cod 125) 1 = .ok (.getfield 12, 3) := by decide +kernel
theorem d125_4 : decode (cod 125) 4 = .ok (.getfield 143, 3) := by decide +kernel
theorem d125_7 : decode (cod 125) 7 = .ok (.iload_n 1, 1) := by decide +kernel
theorem d125_8 : decode (cod 125) 8 = .ok (.invokevirtual 159, 3) := by decide +kernel
theorem d125_11 : decode (cod 125) 11 = .ok (.ifCond .ne 5, 3) := by decide +kernel
theorem d125_14 : decode (cod 125) 14 = .ok (.iconst (-1), 1) := by decide +kernel
theorem d125_15 : decode (cod 125) 15 = .ok (.ireturn, 1) := by decide +kernel
theorem d125_16 : decode (cod 125) 16 = .ok (.aload_n 0, 1) := by decide +kernel
theorem d125_17 : decode (cod 125) 17 = .ok (.getfield 12, 3) := by decide +kernel
theorem d125_20 : decode (cod 125) 20 = .ok (.getfield 143, 3) := by decide +kernel
theorem d125_23 : decode (cod 125) 23 = .ok (.iload_n 1, 1) := by decide +kernel
theorem d125_24 : decode (cod 125) 24 = .ok (.aload_n 0, 1) := by decide +kernel
theorem d125_25 : decode (cod 125) 25 = .ok (.getfield 12, 3) := by decide +kernel
theorem d125_28 : decode (cod 125) 28 = .ok (.getfield 44, 3) := by decide +kernel
theorem d125_31 : decode (cod 125) 31 = .ok (.invokevirtual 212, 3) := by decide +kernel
theorem d125_34 : decode (cod 125) 34 = .ok (.ireturn, 1) := by decide +kernel
theorem d126_0 : decode (cod 126) 0 = .ok (.iload_n 1, 1) := by decide +kernel
theorem d126_1 : decode (cod 126) 1 = .ok (.iload_n 2, 1) := by decide +kernel
theorem d126_2 : decode (cod 126) 2 = .ok (.invokestatic 215, 3) := by decide +kernel
theorem d126_5 : decode (cod 126) 5 = .ok (.ifCond .ne 5, 3) := by decide +kernel
theorem d126_8 : decode (cod 126) 8 = .ok (.iconst (-1), 1) := by decide +kernel
theorem d126_9 : decode (cod 126) 9 = .ok (.ireturn, 1) := by decide +kernel
theorem d126_10 : decode (cod 126) 10 = .ok (.aload_n 0, 1) := by decide +kernel
theorem d126_11 : decode (cod 126) 11 = .ok (.getfield 12, 3) := by decide +kernel
theorem d126_14 : decode (cod 126) 14 = .ok (.getfield 218, 3) := by decide +kernel
theorem d126_17 : decode (cod 126) 17 = .ok (.iload_n 1, 1) := by decide +kernel
theorem d126_18 : decode (cod 126) 18 = .ok (.bipush 10, 2) := by decide +kernel
theorem d126_20 : decode (cod 126) 20 = .ok (.imul, 1) := by decide +kernel
theorem d126_21 : decode (cod 126) 21 = .ok (.iload_n 2, 1) := by decide +kernel
theorem d126_22 : decode (cod 126) 22 = .ok (.iadd, 1) := by decide +kernel
theorem d126_23 : decode (cod 126) 23 = .ok (.iload_n 3, 1) := by decide +kernel
theorem d126_24 : decode (cod 126) 24 = .ok (.invokevirtual 222, 3) := by decide +kernel
theorem d126_27 : decode (cod 126) 27 = .ok (.ifCond .eq 7, 3) := by decide +kernel
theorem d126_30 : decode (cod 126) 30 = .ok (.iconst 1, 1) := by decide +kernel
theorem d126_31 : decode (cod 126) 31 = .ok (.goto 4, 3) := by decide +kernel
theorem d126_34 : decode (cod 126) 34 = .ok (.iconst 0, 1) := by decide +kernel
theorem d126_35 : decode (cod 126) 35 = .ok (.ireturn, 1) := by decide +kernel
theorem d127_0 : decode (cod 127) 0 = .ok (.aload_n 0, 1) := by decide +kernel
theorem d127_1 : decode (cod 127) 1 = .ok (.getfield 12, 3) := by decide +kernel
theorem d127_4 : decode (cod 127) 4 = .ok (.getfield 44, 3) := by decide +kernel
theorem d127_7 : decode (cod 127) 7 = .ok (.iload_n 1, 1) := by decide +kernel
theorem d127_8 : decode (cod 127) 8 = .ok (.invokevirtual 62, 3) := by decide +kernel
theorem d127_11 : decode (cod 127) 11 = .ok (.ifCond .eq 17, 3) := by decide +kernel
theorem d127_14 : decode (cod 127) 14 = .ok (.aload_n 0, 1) := by decide +kernel
theorem d127_15 : decode (cod 127) 15 = .ok (.getfield 12, 3) := by decide +kernel
theorem d127_18 : decode (cod 127) 18 = .ok (.getfield 44, 3) := by decide +kernel
theorem d127_21 : decode (cod 127) 21 = .ok (.iload_n 2, 1) := by decide +kernel
theorem d127_22 : decode (cod 127) 22 = .ok (.invokevirtual 228, 3) := by decide +kernel
theorem d127_25 : decode (cod 127) 25 = .ok (.ifCond .ne 5, 3) := by decide +kernel
theorem d127_28 : decode (cod 127) 28 = .ok (.iconst (-1), 1) := by decide +kernel
theorem d127_29 : decode (cod 127) 29 = .ok (.ireturn, 1) := by decide +kernel
theorem d127_30 : decode (cod 127) 30 = .ok (.aload_n 0, 1) := by decide +kernel
theorem d127_31 : decode (cod 127) 31 = .ok (.getfield 12, 3) := by decide +kernel
theorem d127_34 : decode (cod 127) 34 = .ok (.getfield 44, 3) := by decide +kernel
theorem d127_37 : decode (cod 127) 37 = .ok (.iload_n 1, 1) := by decide +kernel
theorem d127_38 : decode (cod 127) 38 = .ok (.iload_n 2, 1) := by decide +kernel
theorem d127_39 : decode (cod 127) 39 = .ok (.invokevirtual 231, 3) := by decide +kernel
theorem d127_42 : decode (cod 127) 42 = .ok (.aload_n 0, 1) := by decide +kernel
theorem d127_43 : decode (cod 127) 43 = .ok (.getfield 12, 3) := by decide +kernel
theorem d127_46 : decode (cod 127) 46 = .ok (.getfield 218, 3) := by decide +kernel
theorem d127_49 : decode (cod 127) 49 = .ok (.getfield 235, 3) := by decide +kernel
theorem d127_52 : decode (cod 127) 52 = .ok (.land, 1) := by decide +kernel
theorem d127_53 : decode (cod 127) 53 = .ok (.lconst 0, 1) := by decide +kernel
theorem d127_54 : decode (cod 127) 54 = .ok (.lcmp, 1) := by decide +kernel
theorem d127_55 : decode (cod 127) 55 = .ok (.ifCond .ne 7, 3) := by decide +kernel
theorem d127_58 : decode (cod 127) 58 = .ok (.iconst 1, 1) := by decide +kernel
theorem d127_59 : decode (cod 127) 59 = .ok (.goto 4, 3) := by decide +kernel
theorem d127_62 : decode (cod 127) 62 = .ok (.iconst 0, 1) := by decide +kernel
theorem d127_63 : decode (cod 127) 63 = .ok (.ireturn, 1) := by decide +kernel
theorem d128_0 : decode (cod 128) 0 = .ok (.aload_n 0, 1) := by decide +kernel
theorem d128_1 : decode (cod 128) 1 = .ok (.getfield 12, 3) := by decide +kernel
theorem d128_4 : decode (cod 128) 4 = .ok (.getfield 44, 3) := by decide +kernel
theorem d128_7 : decode (cod 128) 7 = .ok (.iload_n 1, 1) := by decide +kernel
theorem d128_8 : decode (cod 128) 8 = .ok (.invokevirtual 62, 3) := by decide +kernel
theorem d128_11 : decode (cod 128) 11 = .ok (.ifCond .eq 17, 3) := by decide +kernel
theorem d128_14 : decode (cod 128) 14 = .ok (.aload_n 0, 1) := by decide +kernel
theorem d128_15 : decode (cod 128) 15 = .ok (.getfield 12, 3) := by decide +kernel
theorem d128_18 : decode (cod 128) 18 = .ok (.getfield 44, 3) := by decide +kernel
theorem d128_21 : decode (cod 128) 21 = .ok (.iload_n 2, 1) := by decide +kernel
theorem d128_22 : decode (cod 128) 22 = .ok (.invokevirtual 228, 3) := by decide +kernel
theorem d128_25 : decode (cod 128) 25 = .ok (.ifCond .ne 5, 3) := by decide +kernel
theorem d128_28 : decode (cod 128) 28 = .ok (.iconst (-1), 1) := by decide +kernel
theorem d128_29 : decode (cod 128) 29 = .ok (.ireturn, 1) := by decide +kernel
theorem d128_30 : decode (cod 128) 30 = .ok (.iload_n 1, 1) := by decide +kernel
theorem d128_31 : decode (cod 128) 31 = .ok (.iload_n 2, 1) := by decide +kernel
theorem d128_32 : decode (cod 128) 32 = .ok (.if_icmp .ne 6, 3) := by decide +kernel
theorem d128_35 : decode (cod 128) 35 = .ok (.bipush (-2), 2) := by decide +kernel
theorem d128_37 : decode (cod 128) 37 = .ok (.ireturn, 1) := by decide +kernel
theorem d128_38 : decode (cod 128) 38 = .ok (.aload_n 0, 1) := by decide +kernel
theorem d128_39 : decode (cod 128) 39 = .ok (.getfield 12, 3) := by decide +kernel
theorem d128_42 : decode (cod 128) 42 = .ok (.getfield 218, 3) := by decide +kernel
theorem d128_45 : decode (cod 128) 45 = .ok (.getfield 239, 3) := by decide +kernel
theorem d128_48 : decode (cod 128) 48 = .ok (.bipush 20, 2) := by decide +kernel
theorem d128_50 : decode (cod 128) 50 = .ok (.if_icmp .lt 6, 3) := by decide +kernel
theorem d128_53 : decode (cod 128) 53 = .ok (.bipush (-4), 2) := by decide +kernel
theorem d128_55 : decode (cod 128) 55 = .ok (.ireturn, 1) := by decide +kernel
theorem d128_56 : decode (cod 128) 56 = .ok (.aload_n 0, 1) := by decide +kernel
theorem d128_57 : decode (cod 128) 57 = .ok (.getfield 12, 3) := by decide +kernel
theorem d128_60 : decode (cod 128) 60 = .ok (.getfield 218, 3) := by decide +kernel
theorem d128_63 : decode (cod 128) 63 = .ok (.aload_n 0, 1) := by decide +kernel
theorem d128_64 : decode (cod 128) 64 = .ok (.getfield 12, 3) := by decide +kernel
theorem d128_67 : decode (cod 128) 67 = .ok (.getfield 44, 3) := by decide +kernel
theorem d128_70 : decode (cod 128) 70 = .ok (.iload_n 1, 1) := by decide +kernel
theorem d128_71 : decode (cod 128) 71 = .ok (.iload_n 2, 1) := by decide +kernel
theorem d128_72 : decode (cod 128) 72 = .ok (.invokevirtual 231, 3) := by decide +kernel
theorem d128_75 : decode (cod 128) 75 = .ok (.iload_n 3, 1) := by decide +kernel
theorem d128_76 : decode (cod 128) 76 = .ok (.invokevirtual 242, 3) := by decide +kernel
theorem d128_79 : decode (cod 128) 79 = .ok (.ireturn, 1) := by decide +kernel
theorem d129_0 : decode (cod 129) 0 = .ok (.iload_n 1, 1) := by decide +kernel
theorem d129_1 : decode (cod 129) 1 = .ok (.iload_n 2, 1) := by decide +kernel
theorem d129_2 : decode (cod 129) 2 = .ok (.invokestatic 215, 3) := by decide +kernel
theorem d129_5 : decode (cod 129) 5 = .ok (.ifCond .ne 5, 3) := by decide +kernel
theorem d129_8 : decode (cod 129) 8 = .ok (.iconst (-1), 1) := by decide +kernel
theorem d129_9 : decode (cod 129) 9 = .ok (.ireturn, 1) := by decide +kernel
theorem d129_10 : decode (cod 129) 10 = .ok (.aload_n 0, 1) := by decide +kernel
theorem d129_11 : decode (cod 129) 11 = .ok (.getfield 12, 3) := by decide +kernel
theorem d129_14 : decode (cod 129) 14 = .ok (.getfield 218, 3) := by decide +kernel
theorem d129_17 : decode (cod 129) 17 = .ok (.iload_n 1, 1) := by decide +kernel
theorem d129_18 : decode (cod 129) 18 = .ok (.bipush 10, 2) := by decide +kernel
theorem d129_20 : decode (cod 129) 20 = .ok (.imul, 1) := by decide +kernel
theorem d129_21 : decode (cod 129) 21 = .ok (.iload_n 2, 1) := by decide +kernel
theorem d129_22 : decode (cod 129) 22 = .ok (.iadd, 1) := by decide +kernel
theorem d129_23 : decode (cod 129) 23 = .ok (.invokevirtual 246, 3) := by decide +kernel
theorem d129_26 : decode (cod 129) 26 = .ok (.ifCond .eq 6, 3) := by decide +kernel
theorem d129_29 : decode (cod 129) 29 = .ok (.bipush (-3), 2) := by decide +kernel
theorem d129_31 : decode (cod 129) 31 = .ok (.ireturn, 1) := by decide +kernel
theorem d129_32 : decode (cod 129) 32 = .ok (.aload_n 0, 1) := by decide +kernel
theorem d129_33 : decode (cod 129) 33 = .ok (.getfield 12, 3) := by decide +kernel
theorem d129_36 : decode (cod 129) 36 = .ok (.getfield 218, 3) := by decide +kernel
theorem d129_39 : decode (cod 129) 39 = .ok (.getfield 249, 3) := by decide +kernel
theorem d129_42 : decode (cod 129) 42 = .ok (.bipush 10, 2) := by decide +kernel
theorem d129_44 : decode (cod 129) 44 = .ok (.if_icmp .lt 6, 3) := by decide +kernel
theorem d129_47 : decode (cod 129) 47 = .ok (.bipush (-4), 2) := by decide +kernel
theorem d129_49 : decode (cod 129) 49 = .ok (.ireturn, 1) := by decide +kernel
theorem d129_50 : decode (cod 129) 50 = .ok (.aload_n 0, 1) := by decide +kernel
theorem d129_51 : decode (cod 129) 51 = .ok (.getfield 12, 3) := by decide +kernel
theorem d129_54 : decode (cod 129) 54 = .ok (.getfield 218, 3) := by decide +kernel
theorem d129_57 : decode (cod 129) 57 = .ok (.iload_n 1, 1) := by decide +kernel
theorem d129_58 : decode (cod 129) 58 = .ok (.bipush 10, 2) := by decide +kernel
theorem d129_60 : decode (cod 129) 60 = .ok (.imul, 1) := by decide +kernel
theorem d129_61 : decode (cod 129) 61 = .ok (.iload_n 2, 1) := by decide +kernel
theorem d129_62 : decode (cod 129) 62 = .ok (.iadd, 1) := by decide +kernel
theorem d129_63 : decode (cod 129) 63 = .ok (.invokevirtual 252, 3) := by decide +kernel
theorem d129_66 : decode (cod 129) 66 = .ok (.ireturn, 1) := by decide +kernel
theorem d130_0 : decode (cod 130) 0 = .ok (.iload_n 1, 1) := by decide +kernel
theorem d130_1 : decode (cod 130) 1 = .ok (.iconst 0, 1) := by decide +kernel
theorem d130_2 : decode (cod 130) 2 = .ok (.iconst 1, 1) := by decide +kernel
theorem d130_3 : decode (cod 130) 3 = .ok (.invokestatic 40, 3) := by decide +kernel
theorem d130_6 : decode (cod 130) 6 = .ok (.ifCond .ne 5, 3) := by decide +kernel
theorem d130_9 : decode (cod 130) 9 = .ok (.iconst (-1), 1) := by decide +kernel
theorem d130_10 : decode (cod 130) 10 = .ok (.ireturn, 1) := by decide +kernel
theorem d130_11 : decode (cod 130) 11 = .ok (.aload_n 0, 1) := by decide +kernel
theorem d130_12 : decode (cod 130) 12 = .ok (.getfield 12, 3) := by decide +kernel
theorem d130_15 : decode (cod 130) 15 = .ok (.getfield 218, 3) := by decide +kernel
theorem d130_18 : decode (cod 130) 18 = .ok (.invokevirtual 255, 3) := by decide +kernel
theorem d130_21 : decode (cod 130) 21 = .ok (.aload_n 0, 1) := by decide +kernel
theorem d130_22 : decode (cod 130) 22 = .ok (.getfield 12, 3) := by decide +kernel
theorem d130_25 : decode (cod 130) 25 = .ok (.getfield 218, 3) := by decide +kernel
theorem d130_28 : decode (cod 130) 28 = .ok (.getfield 258, 3) := by decide +kernel
theorem d130_31 : decode (cod 130) 31 = .ok (.ifCond .ne 6, 3) := by decide +kernel
theorem d130_34 : decode (cod 130) 34 = .ok (.bipush (-5), 2) := by decide +kernel
theorem d130_36 : decode (cod 130) 36 = .ok (.ireturn, 1) := by decide +kernel
theorem d130_37 : decode (cod 130) 37 = .ok (.iload_n 1, 1) := by decide +kernel
theorem d130_38 : decode (cod 130) 38 = .ok (.ifCond .ne 16, 3) := by decide +kernel
theorem d130_41 : decode (cod 130) 41 = .ok (.aload_n 0, 1) := by decide +kernel
theorem d130_42 : decode (cod 130) 42 = .ok (.getfield 12, 3) := by decide +kernel
theorem d130_45 : decode (cod 130) 45 = .ok (.getfield 218, 3) := by decide +kernel
theorem d130_48 : decode (cod 130) 48 = .ok (.getfield 261, 3) := by decide +kernel
theorem d130_51 : decode (cod 130) 51 = .ok (.goto 13, 3) := by decide +kernel
theorem d130_54 : decode (cod 130) 54 = .ok (.aload_n 0, 1) := by decide +kernel
theorem d130_55 : decode (cod 130) 55 = .ok (.getfield 12, 3) := by decide +kernel
theorem d130_58 : decode (cod 130) 58 = .ok (.getfield 218, 3) := by decide +kernel
theorem d130_61 : decode (cod 130) 61 = .ok (.getfield 258, 3) := by decide +kernel
theorem d130_64 : decode (cod 130) 64 = .ok (.ireturn, 1) := by decide +kernel
theorem d131_0 : decode (cod 131) 0 = .ok (.aload_n 0, 1) := by decide +kernel
theorem d131_1 : decode (cod 131) 1 = .ok (.getfield 12, 3) := by decide +kernel
theorem d131_4 : decode (cod 131) 4 = .ok (.getfield 44, 3) := by decide +kernel
theorem d131_7 : decode (cod 131) 7 = .ok (.iload_n 1, 1) := by decide +kernel
theorem d131_8 : decode (cod 131) 8 = .ok (.invokevirtual 62, 3) := by decide +kernel
theorem d131_11 : decode (cod 131) 11 = .ok (.ifCond .eq 12, 3) := by decide +kernel
theorem d131_14 : decode (cod 131) 14 = .ok (.iload_n 2, 1) := by decide +kernel
theorem d131_15 : decode (cod 131) 15 = .ok (.iconst 0, 1) := by decide +kernel
theorem d131_16 : decode (cod 131) 16 = .ok (.iconst 1, 1) := by decide +kernel
theorem d131_17 : decode (cod 131) 17 = .ok (.invokestatic 40, 3) := by decide +kernel
theorem d131_20 : decode (cod 131) 20 = .ok (.ifCond .ne 5, 3) := by decide +kernel
theorem d131_23 : decode (cod 131) 23 = .ok (.iconst (-1), 1) := by decide +kernel
theorem d131_24 : decode (cod 131) 24 = .ok (.ireturn, 1) := by decide +kernel
theorem d131_25 : decode (cod 131) 25 = .ok (.iload_n 3, 1) := by decide +kernel
theorem d131_26 : decode (cod 131) 26 = .ok (.iconst 1, 1) := by decide +kernel
theorem d131_27 : decode (cod 131) 27 = .ok (.sipush 999, 3) := by decide +kernel
theorem d131_30 : decode (cod 131) 30 = .ok (.invokestatic 40, 3) := by decide +kernel
theorem d131_33 : decode (cod 131) 33 = .ok (.ifCond .ne 6, 3) := by decide +kernel
theorem d131_36 : decode (cod 131) 36 = .ok (.bipush (-2), 2) := by decide +kernel
theorem d131_38 : decode (cod 131) 38 = .ok (.ireturn, 1) := by decide +kernel
theorem d131_39 : decode (cod 131) 39 = .ok (.aload_n 0, 1) := by decide +kernel
theorem d131_40 : decode (cod 131) 40 = .ok (.getfield 12, 3) := by decide +kernel
theorem d131_43 : decode (cod 131) 43 = .ok (.getfield 264, 3) := by decide +kernel
theorem d131_46 : decode (cod 131) 46 = .ok (.getfield 268, 3) := by decide +kernel
theorem d131_49 : decode (cod 131) 49 = .ok (.bipush 60, 2) := by decide +kernel
theorem d131_51 : decode (cod 131) 51 = .ok (.if_icmp .lt 6, 3) := by decide +kernel
theorem d131_54 : decode (cod 131) 54 = .ok (.bipush (-4), 2) := by decide +kernel
theorem d131_56 : decode (cod 131) 56 = .ok (.ireturn, 1) := by decide +kernel
theorem d131_57 : decode (cod 131) 57 = .ok (.aload_n 0, 1) := by decide +kernel
theorem d131_58 : decode (cod 131) 58 = .ok (.getfield 12, 3) := by decide +kernel
theorem d131_61 : decode (cod 131) 61 = .ok (.getfield 264, 3) := by decide +kernel
theorem d131_64 : decode (cod 131) 64 = .ok (.iload_n 1, 1) := by decide +kernel
theorem d131_65 : decode (cod 131) 65 = .ok (.iload_n 2, 1) := by decide +kernel
theorem d131_66 : decode (cod 131) 66 = .ok (.iload_n 3, 1) := by decide +kernel
theorem d131_67 : decode (cod 131) 67 = .ok (.aload_n 0, 1) := by decide +kernel
theorem d131_68 : decode (cod 131) 68 = .ok (.getfield 12, 3) := by decide +kernel
theorem d131_71 : decode (cod 131) 71 = .ok (.invokevirtual 54, 3) := by decide +kernel
theorem d131_74 : decode (cod 131) 74 = .ok (.invokevirtual 271, 3) := by decide +kernel
theorem d131_77 : decode (cod 131) 77 = .ok (.aload_n 0, 1) := by decide +kernel
theorem d131_78 : decode (cod 131) 78 = .ok (.getfield 12, 3) := by decide +kernel
theorem d131_81 : decode (cod 131) 81 = .ok (.getfield 264, 3) := by decide +kernel
theorem d131_84 : decode (cod 131) 84 = .ok (.iload_n 1, 1) := by decide +kernel
theorem d131_85 : decode (cod 131) 85 = .ok (.iload_n 2, 1) := by decide +kernel
theorem d131_86 : decode (cod 131) 86 = .ok (.invokevirtual 274, 3) := by decide +kernel
theorem d131_89 : decode (cod 131) 89 = .ok (.ireturn, 1) := by decide +kernel
theorem d132_0 : decode (cod 132) 0 = .ok (.aload_n 0, 1) := by decide +kernel
theorem d132_1 : decode (cod 132) 1 = .ok (.getfield 12, 3) := by decide +kernel
theorem d132_4 : decode (cod 132) 4 = .ok (.getfield 44, 3) := by decide +kernel
theorem d132_7 : decode (cod 132) 7 = .ok (.iload_n 1, 1) := by decide +kernel
theorem d132_8 : decode (cod 132) 8 = .ok (.invokevirtual 62, 3) := by decide +kernel
theorem d132_11 : decode (cod 132) 11 = .ok (.ifCond .ne 5, 3) := by decide +kernel
theorem d132_14 : decode (cod 132) 14 = .ok (.iconst (-1), 1) := by decide +kernel
theorem d132_15 : decode (cod 132) 15 = .ok (.ireturn, 1) := by decide +kernel
theorem d132_16 : decode (cod 132) 16 = .ok (.iload_n 2, 1) := by decide +kernel
theorem d132_17 : decode (cod 132) 17 = .ok (.iconst 0, 1) := by decide +kernel
theorem d132_18 : decode (cod 132) 18 = .ok (.aload_n 0, 1) := by decide +kernel
theorem d132_19 : decode (cod 132) 19 = .ok (.getfield 12, 3) := by decide +kernel
theorem d132_22 : decode (cod 132) 22 = .ok (.invokevirtual 54, 3) := by decide +kernel
theorem d132_25 : decode (cod 132) 25 = .ok (.invokestatic 40, 3) := by decide +kernel
theorem d132_28 : decode (cod 132) 28 = .ok (.ifCond .ne 6, 3) := by decide +kernel
theorem d132_31 : decode (cod 132) 31 = .ok (.bipush (-2), 2) := by decide +kernel
theorem d132_33 : decode (cod 132) 33 = .ok (.ireturn, 1) := by decide +kernel
theorem d132_34 : decode (cod 132) 34 = .ok (.aload_n 0, 1) := by decide +kernel
theorem d132_35 : decode (cod 132) 35 = .ok (.getfield 12, 3) := by decide +kernel
theorem d132_38 : decode (cod 132) 38 = .ok (.iload_n 1, 1) := by decide +kernel
theorem d132_39 : decode (cod 132) 39 = .ok (.iload_n 2, 1) := by decide +kernel
theorem d132_40 : decode (cod 132) 40 = .ok (.invokevirtual 277, 3) := by decide +kernel
theorem d132_43 : decode (cod 132) 43 = .ok (.ireturn, 1) := by decide +kernel
theorem d133_0 : decode (cod 133) 0 = .ok (.aload_n 0, 1) := by decide +kernel
theorem d133_1 : decode (cod 133) 1 = .ok (.getfield 12, 3) := by decide +kernel
theorem d133_4 : decode (cod 133) 4 = .ok (.getfield 44, 3) := by decide +kernel
theorem d133_7 : decode (cod 133) 7 = .ok (.iload_n 1, 1) := by decide +kernel
theorem d133_8 : decode (cod 133) 8 = .ok (.invokevirtual 62, 3) := by decide +kernel
theorem d133_11 : decode (cod 133) 11 = .ok (.ifCond .ne 5, 3) := by decide +kernel
theorem d133_14 : decode (cod 133) 14 = .ok (.iconst (-1), 1) := by decide +kernel
theorem d133_15 : decode (cod 133) 15 = .ok (.ireturn, 1) := by decide +kernel
theorem d133_16 : decode (cod 133) 16 = .ok (.aload_n 0, 1) := by decide +kernel
theorem d133_17 : decode (cod 133) 17 = .ok (.getfield 12, 3) := by decide +kernel
theorem d133_20 : decode (cod 133) 20 = .ok (.iload_n 1, 1) := by decide +kernel
theorem d133_21 : decode (cod 133) 21 = .ok (.invokevirtual 280, 3) := by decide +kernel
theorem d133_24 : decode (cod 133) 24 = .ok (.ireturn, 1) := by decide +kernel
theorem d134_0 : decode (cod 134) 0 = .ok (.aload_n 0, 1) := by decide +kernel
theorem d134_1 : decode (cod 134) 1 = .ok (.getfield 12, 3) := by decide +kernel
theorem d134_4 : decode (cod 134) 4 = .ok (.getfield 44, 3) := by decide +kernel
theorem d134_7 : decode (cod 134) 7 = .ok (.iload_n 1, 1) := by decide +kernel
theorem d134_8 : decode (cod 134) 8 = .ok (.invokevirtual 62, 3) := by decide +kernel
theorem d134_11 : decode (cod 134) 11 = .ok (.ifCond .ne 5, 3) := by decide +kernel
theorem d134_14 : decode (cod 134) 14 = .ok (.iconst (-1), 1) := by decide +kernel
theorem d134_15 : decode (cod 134) 15 = .ok (.ireturn, 1) := by decide +kernel
theorem d134_16 : decode (cod 134) 16 = .ok (.iload_n 2, 1) := by decide +kernel
theorem d134_17 : decode (cod 134) 17 = .ok (.iconst 0, 1) := by decide +kernel
theorem d134_18 : decode (cod 134) 18 = .ok (.sipush 400, 3) := by decide +kernel
theorem d134_21 : decode (cod 134) 21 = .ok (.invokestatic 40, 3) := by decide +kernel
theorem d134_24 : decode (cod 134) 24 = .ok (.ifCond .eq 14, 3) := by decide +kernel
theorem d134_27 : decode (cod 134) 27 = .ok (.iload_n 3, 1) := by decide +kernel
theorem d134_28 : decode (cod 134) 28 = .ok (.iload_n 2, 1) := by decide +kernel
theorem d134_29 : decode (cod 134) 29 = .ok (.sipush 400, 3) := by decide +kernel
theorem d134_32 : decode (cod 134) 32 = .ok (.invokestatic 40, 3) := by decide +kernel
theorem d134_35 : decode (cod 134) 35 = .ok (.ifCond .ne 6, 3) := by decide +kernel
theorem d134_38 : decode (cod 134) 38 = .ok (.bipush (-2), 2) := by decide +kernel
theorem d134_40 : decode (cod 134) 40 = .ok (.ireturn, 1) := by decide +kernel
theorem d134_41 : decode (cod 134) 41 = .ok (.aload_n 0, 1) := by decide +kernel
theorem d134_42 : decode (cod 134) 42 = .ok (.getfield 12, 3) := by decide +kernel
theorem d134_45 : decode (cod 134) 45 = .ok (.getfield 143, 3) := by decide +kernel
theorem d134_48 : decode (cod 134) 48 = .ok (.iload_n 1, 1) := by decide +kernel
theorem d134_49 : decode (cod 134) 49 = .ok (.iload_n 2, 1) := by decide +kernel
theorem d134_50 : decode (cod 134) 50 = .ok (.iload_n 3, 1) := by decide +kernel
theorem d134_51 : decode (cod 134) 51 = .ok (.invokevirtual 283, 3) := by decide +kernel
theorem d134_54 : decode (cod 134) 54 = .ok (.istore 4, 2) := by decide +kernel
theorem d134_56 : decode (cod 134) 56 = .ok (.iconst 2, 1) := by decide +kernel
theorem d134_57 : decode (cod 134) 57 = .ok (.iload 4, 2) := by decide +kernel
theorem d134_59 : decode (cod 134) 59 = .ok (.imul, 1) := by decide +kernel
theorem d134_60 : decode (cod 134) 60 = .ok (.iload 4, 2) := by decide +kernel
theorem d134_62 : decode (cod 134) 62 = .ok (.bipush 10, 2) := by decide +kernel
theorem d134_64 : decode (cod 134) 64 = .ok (.invokestatic 87, 3) := by decide +kernel
theorem d134_67 : decode (cod 134) 67 = .ok (.iadd, 1) := by decide +kernel
theorem d134_68 : decode (cod 134) 68 = .ok (.iload 4, 2) := by decide +kernel
theorem d134_70 : decode (cod 134) 70 = .ok (.bipush 20, 2) := by decide +kernel
theorem d134_72 : decode (cod 134) 72 = .ok (.invokestatic 87, 3) := by decide +kernel
theorem d134_75 : decode (cod 134) 75 = .ok (.iadd, 1) := by decide +kernel
theorem d134_76 : decode (cod 134) 76 = .ok (.ireturn, 1) := by decide +kernel
theorem d135_0 : decode (cod 135) 0 = .ok (.aload_n 0, 1) := by decide +kernel
theorem d135_1 : decode (cod 135) 1 = .ok (.getfield 12, 3) := by decide +kernel
theorem d135_4 : decode (cod 135) 4 = .ok (.getfield 44, 3) := by decide +kernel
theorem d135_7 : decode (cod 135) 7 = .ok (.iload_n 1, 1) := by decide +kernel
theorem d135_8 : decode (cod 135) 8 = .ok (.invokevirtual 62, 3) := by decide +kernel
theorem d135_11 : decode (cod 135) 11 = .ok (.ifCond .eq 17, 3) := by decide +kernel
theorem d135_14 : decode (cod 135) 14 = .ok (.aload_n 0, 1) := by decide +kernel
theorem d135_15 : decode (cod 135) 15 = .ok (.getfield 12, 3) := by decide +kernel
theorem d135_18 : decode (cod 135) 18 = .ok (.getfield 44, 3) := by decide +kernel
theorem d135_21 : decode (cod 135) 21 = .ok (.iload_n 2, 1) := by decide +kernel
theorem d135_22 : decode (cod 135) 22 = .ok (.invokevirtual 62, 3) := by decide +kernel
theorem d135_25 : decode (cod 135) 25 = .ok (.ifCond .ne 5, 3) := by decide +kernel
theorem d135_28 : decode (cod 135) 28 = .ok (.iconst (-1), 1) := by decide +kernel
theorem d135_29 : decode (cod 135) 29 = .ok (.ireturn, 1) := by decide +kernel
theorem d135_30 : decode (cod 135) 30 = .ok (.iload_n 1, 1) := by decide +kernel
theorem d135_31 : decode (cod 135) 31 = .ok (.iload_n 2, 1) := by decide +kernel
theorem d135_32 : decode (cod 135) 32 = .ok (.if_icmp .ne 6, 3) := by decide +kernel
theorem d135_35 : decode (cod 135) 35 = .ok (.bipush (-2), 2) := by decide +kernel
theorem d135_37 : decode (cod 135) 37 = .ok (.ireturn, 1) := by decide +kernel
theorem d135_38 : decode (cod 135) 38 = .ok (.aload_n 0, 1) := by decide +kernel
theorem d135_39 : decode (cod 135) 39 = .ok (.getfield 12, 3) := by decide +kernel
theorem d135_42 : decode (cod 135) 42 = .ok (.getfield 44, 3) := by decide +kernel
theorem d135_45 : decode (cod 135) 45 = .ok (.iload_n 1, 1) := by decide +kernel
theorem d135_46 : decode (cod 135) 46 = .ok (.iload_n 2, 1) := by decide +kernel
theorem d135_47 : decode (cod 135) 47 = .ok (.invokevirtual 286, 3) := by decide +kernel
theorem d135_50 : decode (cod 135) 50 = .ok (.ifCond .eq 7, 3) := by decide +kernel
theorem d135_53 : decode (cod 135) 53 = .ok (.iconst 1, 1) := by decide +kernel
theorem d135_54 : decode (cod 135) 54 = .ok (.goto 4, 3) := by decide +kernel
theorem d135_57 : decode (cod 135) 57 = .ok (.iconst 0, 1) := by decide +kernel
theorem d135_58 : decode (cod 135) 58 = .ok (.ireturn, 1) := by decide +kernel
theorem d136_0 : decode (cod 136) 0 = .ok (.iload_n 3, 1) := by decide +kernel
theorem d136_1 : decode (cod 136) 1 = .ok (.iconst (-1), 1) := by decide +kernel
theorem d136_2 : decode (cod 136) 2 = .ok (.if_icmp .eq 14, 3) := by decide +kernel
theorem d136_5 : decode (cod 136) 5 = .ok (.iload_n 3, 1) := by decide +kernel
theorem d136_6 : decode (cod 136) 6 = .ok (.ifCond .lt 8, 3) := by decide +kernel
theorem d136_9 : decode (cod 136) 9 = .ok (.iload_n 3, 1) := by decide +kernel
theorem d136_10 : decode (cod 136) 10 = .ok (.iload_n 1, 1) := by decide +kernel
theorem d136_11 : decode (cod 136) 11 = .ok (.if_icmp .lt 5, 3) := by decide +kernel
theorem d136_14 : decode (cod 136) 14 = .ok (.iconst (-1), 1) := by decide +kernel
theorem d136_15 : decode (cod 136) 15 = .ok (.ireturn, 1) := by decide +kernel
theorem d136_16 : decode (cod 136) 16 = .ok (.iload_n 1, 1) := by decide +kernel
theorem d136_17 : decode (cod 136) 17 = .ok (.iconst 1, 1) := by decide +kernel
theorem d136_18 : decode (cod 136) 18 = .ok (.bipush 7, 2) := by decide +kernel
theorem d136_20 : decode (cod 136) 20 = .ok (.aload_n 0, 1) := by decide +kernel
theorem d136_21 : decode (cod 136) 21 = .ok (.getfield 12, 3) := by decide +kernel
theorem d136_24 : decode (cod 136) 24 = .ok (.getfield 44, 3) := by decide +kernel
theorem d136_27 : decode (cod 136) 27 = .ok (.getfield 48, 3) := by decide +kernel
theorem d136_30 : decode (cod 136) 30 = .ok (.invokestatic 87, 3) := by decide +kernel
theorem d136_33 : decode (cod 136) 33 = .ok (.invokestatic 40, 3) := by decide +kernel
theorem d136_36 : decode (cod 136) 36 = .ok (.ifCond .eq 12, 3) := by decide +kernel
theorem d136_39 : decode (cod 136) 39 = .ok (.iload_n 2, 1) := by decide +kernel
theorem d136_40 : decode (cod 136) 40 = .ok (.iconst 1, 1) := by decide +kernel
theorem d136_41 : decode (cod 136) 41 = .ok (.iconst 3, 1) := by decide +kernel
theorem d136_42 : decode (cod 136) 42 = .ok (.invokestatic 40, 3) := by decide +kernel
theorem d136_45 : decode (cod 136) 45 = .ok (.ifCond .ne 6, 3) := by decide +kernel
theorem d136_48 : decode (cod 136) 48 = .ok (.bipush (-2), 2) := by decide +kernel
theorem d136_50 : decode (cod 136) 50 = .ok (.ireturn, 1) := by decide +kernel
theorem d136_51 : decode (cod 136) 51 = .ok (.aload_n 0, 1) := by decide +kernel
theorem d136_52 : decode (cod 136) 52 = .ok (.getfield 33, 3) := by decide +kernel
theorem d136_55 : decode (cod 136) 55 = .ok (.aload_n 0, 1) := by decide +kernel
theorem d136_56 : decode (cod 136) 56 = .ok (.getfield 12, 3) := by decide +kernel
theorem d136_59 : decode (cod 136) 59 = .ok (.iload_n 1, 1) := by decide +kernel
theorem d136_60 : decode (cod 136) 60 = .ok (.iload_n 2, 1) := by decide +kernel
theorem d136_61 : decode (cod 136) 61 = .ok (.invokevirtual 289, 3) := by decide +kernel
theorem d136_64 : decode (cod 136) 64 = .ok (.ifCond .ne 6, 3) := by decide +kernel
theorem d136_67 : decode (cod 136) 67 = .ok (.bipush (-5), 2) := by decide +kernel
theorem d136_69 : decode (cod 136) 69 = .ok (.ireturn, 1) := by decide +kernel
theorem d136_70 : decode (cod 136) 70 = .ok (.iload_n 3, 1) := by decide +kernel
theorem d136_71 : decode (cod 136) 71 = .ok (.ifCond .ge 13, 3) := by decide +kernel
theorem d136_74 : decode (cod 136) 74 = .ok (.aload_n 0, 1) := by decide +kernel
theorem d136_75 : decode (cod 136) 75 = .ok (.getfield 33, 3) := by decide +kernel
theorem d136_78 : decode (cod 136) 78 = .ok (.getfield 292, 3) := by decide +kernel
theorem d136_81 : decode (cod 136) 81 = .ok (.goto 12, 3) := by decide +kernel
theorem d136_84 : decode (cod 136) 84 = .ok (.aload_n 0, 1) := by decide +kernel
theorem d136_85 : decode (cod 136) 85 = .ok (.getfield 33, 3) := by decide +kernel
theorem d136_88 : decode (cod 136) 88 = .ok (.getfield 293, 3) := by decide +kernel
theorem d136_91 : decode (cod 136) 91 = .ok (.iload_n 3, 1) := by decide +kernel
theorem d136_92 : decode (cod 136) 92 = .ok (.iaload, 1) := by decide +kernel
theorem d136_93 : decode (cod 136) 93 = .ok (.ireturn, 1) := by decide +kernel
theorem d137_0 : decode (cod 137) 0 = .ok (.iload_n 3, 1) := by decide +kernel
theorem d137_1 : decode (cod 137) 1 = .ok (.iconst (-1), 1) := by decide +kernel
theorem d137_2 : decode (cod 137) 2 = .ok (.aload_n 0, 1) := by decide +kernel
theorem d137_3 : decode (cod 137) 3 = .ok (.getfield 12, 3) := by decide +kernel
theorem d137_6 : decode (cod 137) 6 = .ok (.getfield 294, 3) := by decide +kernel
theorem d137_9 : decode (cod 137) 9 = .ok (.getfield 298, 3) := by decide +kernel
theorem d137_12 : decode (cod 137) 12 = .ok (.iconst 1, 1) := by decide +kernel
theorem d137_13 : decode (cod 137) 13 = .ok (.isub, 1) := by decide +kernel
theorem d137_14 : decode (cod 137) 14 = .ok (.invokestatic 40, 3) := by decide +kernel
theorem d137_17 : decode (cod 137) 17 = .ok (.ifCond .ne 5, 3) := by decide +kernel
theorem d137_20 : decode (cod 137) 20 = .ok (.iconst (-1), 1) := by decide +kernel
theorem d137_21 : decode (cod 137) 21 = .ok (.ireturn, 1) := by decide +kernel
theorem d137_22 : decode (cod 137) 22 = .ok (.iload_n 1, 1) := by decide +kernel
theorem d137_23 : decode (cod 137) 23 = .ok (.iconst 0, 1) := by decide +kernel
theorem d137_24 : decode (cod 137) 24 = .ok (.iconst 1, 1) := by decide +kernel
theorem d137_25 : decode (cod 137) 25 = .ok (.aload_n 0, 1) := by decide +kernel
theorem d137_26 : decode (cod 137) 26 = .ok (.getfield 12, 3) := by decide +kernel
theorem d137_29 : decode (cod 137) 29 = .ok (.getfield 44, 3) := by decide +kernel
theorem d137_32 : decode (cod 137) 32 = .ok (.getfield 48, 3) := by decide +kernel
theorem d137_35 : decode (cod 137) 35 = .ok (.ishl, 1) := by decide +kernel
theorem d137_36 : decode (cod 137) 36 = .ok (.iconst 1, 1) := by decide +kernel
theorem d137_37 : decode (cod 137) 37 = .ok (.isub, 1) := by decide +kernel
theorem d137_38 : decode (cod 137) 38 = .ok (.invokestatic 40, 3) := by decide +kernel
theorem d137_41 : decode (cod 137) 41 = .ok (.ifCond .eq 15, 3) := by decide +kernel
theorem d137_44 : decode (cod 137) 44 = .ok (.iload_n 2, 1) := by decide +kernel
theorem d137_45 : decode (cod 137) 45 = .ok (.iconst 0, 1) := by decide +kernel
theorem d137_46 : decode (cod 137) 46 = .ok (.iload_n 1, 1) := by decide +kernel
theorem d137_47 : decode (cod 137) 47 = .ok (.invokestatic 82, 3) := by decide +kernel
theorem d137_50 : decode (cod 137) 50 = .ok (.invokestatic 40, 3) := by decide +kernel
theorem d137_53 : decode (cod 137) 53 = .ok (.ifCond .ne 6, 3) := by decide +kernel
theorem d137_56 : decode (cod 137) 56 = .ok (.bipush (-2), 2) := by decide +kernel
theorem d137_58 : decode (cod 137) 58 = .ok (.ireturn, 1) := by decide +kernel
theorem d137_59 : decode (cod 137) 59 = .ok (.aload_n 0, 1) := by decide +kernel
theorem d137_60 : decode (cod 137) 60 = .ok (.getfield 12, 3) := by decide +kernel
theorem d137_63 : decode (cod 137) 63 = .ok (.getfield 294, 3) := by decide +kernel
theorem d137_66 : decode (cod 137) 66 = .ok (.getfield 298, 3) := by decide +kernel
theorem d137_69 : decode (cod 137) 69 = .ok (.bipush 10, 2) := by decide +kernel
theorem d137_71 : decode (cod 137) 71 = .ok (.if_icmp .lt 6, 3) := by decide +kernel
theorem d137_74 : decode (cod 137) 74 = .ok (.bipush (-4), 2) := by decide +kernel
theorem d137_76 : decode (cod 137) 76 = .ok (.ireturn, 1) := by decide +kernel
theorem d137_77 : decode (cod 137) 77 = .ok (.aload_n 0, 1) := by decide +kernel
theorem d137_78 : decode (cod 137) 78 = .ok (.getfield 12, 3) := by decide +kernel
theorem d137_81 : decode (cod 137) 81 = .ok (.getfield 294, 3) := by decide +kernel
theorem d137_84 : decode (cod 137) 84 = .ok (.iload_n 1, 1) := by decide +kernel
theorem d137_85 : decode (cod 137) 85 = .ok (.invokestatic 82, 3) := by decide +kernel
theorem d137_88 : decode (cod 137) 88 = .ok (.iload_n 2, 1) := by decide +kernel
theorem d137_89 : decode (cod 137) 89 = .ok (.iload_n 3, 1) := by decide +kernel
theorem d137_90 : decode (cod 137) 90 = .ok (.aload_n 0, 1) := by decide +kernel
theorem d137_91 : decode (cod 137) 91 = .ok (.getfield 12, 3) := by decide +kernel
theorem d137_94 : decode (cod 137) 94 = .ok (.getfield 44, 3) := by decide +kernel
theorem d137_97 : decode (cod 137) 97 = .ok (.getfield 48, 3) := by decide +kernel
theorem d137_100 : decode (cod 137) 100 = .ok (.invokevirtual 301, 3) := by decide +kernel
theorem d137_103 : decode (cod 137) 103 = .ok (.ireturn, 1) := by decide +kernel
theorem d138_0 : decode (cod 138) 0 = .ok (.iload_n 1, 1) := by decide +kernel
theorem d138_1 : decode (cod 138) 1 = .ok (.iconst 0, 1) := by decide +kernel
theorem d138_2 : decode (cod 138) 2 = .ok (.aload_n 0, 1) := by decide +kernel
theorem d138_3 : decode (cod 138) 3 = .ok (.getfield 12, 3) := by decide +kernel
theorem d138_6 : decode (cod 138) 6 = .ok (.getfield 294, 3) := by decide +kernel
theorem d138_9 : decode (cod 138) 9 = .ok (.getfield 298, 3) := by decide +kernel
theorem d138_12 : decode (cod 138) 12 = .ok (.iconst 1, 1) := by decide +kernel
theorem d138_13 : decode (cod 138) 13 = .ok (.isub, 1) := by decide +kernel
theorem d138_14 : decode (cod 138) 14 = .ok (.invokestatic 40, 3) := by decide +kernel
theorem d138_17 : decode (cod 138) 17 = .ok (.ifCond .ne 5, 3) := by decide +kernel
theorem d138_20 : decode (cod 138) 20 = .ok (.iconst (-1), 1) := by decide +kernel
theorem d138_21 : decode (cod 138) 21 = .ok (.ireturn, 1) := by decide +kernel
theorem d138_22 : decode (cod 138) 22 = .ok (.aload_n 0, 1) := by decide +kernel
theorem d138_23 : decode (cod 138) 23 = .ok (.getfield 12, 3) := by decide +kernel
theorem d138_26 : decode (cod 138) 26 = .ok (.getfield 294, 3) := by decide +kernel
theorem d138_29 : decode (cod 138) 29 = .ok (.iload_n 1, 1) := by decide +kernel
theorem d138_30 : decode (cod 138) 30 = .ok (.invokevirtual 302, 3) := by decide +kernel
theorem d138_33 : decode (cod 138) 33 = .ok (.ifCond .eq 7, 3) := by decide +kernel
theorem d138_36 : decode (cod 138) 36 = .ok (.iconst 1, 1) := by decide +kernel
theorem d138_37 : decode (cod 138) 37 = .ok (.goto 4, 3) := by decide +kernel
theorem d138_40 : decode (cod 138) 40 = .ok (.iconst 0, 1) := by decide +kernel
theorem d138_41 : decode (cod 138) 41 = .ok (.ireturn, 1) := by decide +kernel
theorem d139_0 : decode (cod 139) 0 = .ok (.aload_n 0, 1) := by decide +kernel
theorem d139_1 : decode (cod 139) 1 = .ok (.getfield 12, 3) := by decide +kernel
theorem d139_4 : decode (cod 139) 4 = .ok (.getfield 294, 3) := by decide +kernel
theorem d139_7 : decode (cod 139) 7 = .ok (.invokevirtual 305, 3) := by decide +kernel
theorem d139_10 : decode (cod 139) 10 = .ok (.ireturn, 1) := by decide +kernel
theorem d140_0 : decode (cod 140) 0 = .ok (.iload_n 1, 1) := by decide +kernel
theorem d140_1 : decode (cod 140) 1 = .ok (.iconst 0, 1) := by decide +kernel
theorem d140_2 : decode (cod 140) 2 = .ok (.iconst 1, 1) := by decide +kernel
theorem d140_3 : decode (cod 140) 3 = .ok (.invokestatic 40, 3) := by decide +kernel
theorem d140_6 : decode (cod 140) 6 = .ok (.ifCond .eq 21, 3) := by decide +kernel
theorem d140_9 : decode (cod 140) 9 = .ok (.iload_n 1, 1) := by decide +kernel
theorem d140_10 : decode (cod 140) 10 = .ok (.ifCond .ne 19, 3) := by decide +kernel
theorem d140_13 : decode (cod 140) 13 = .ok (.aload_n 0, 1) := by decide +kernel
theorem d140_14 : decode (cod 140) 14 = .ok (.getfield 12, 3) := by decide +kernel
theorem d140_17 : decode (cod 140) 17 = .ok (.getfield 143, 3) := by decide +kernel
theorem d140_20 : decode (cod 140) 20 = .ok (.iload_n 2, 1) := by decide +kernel
theorem d140_21 : decode (cod 140) 21 = .ok (.invokevirtual 159, 3) := by decide +kernel
theorem d140_24 : decode (cod 140) 24 = .ok (.ifCond .ne 5, 3) := by decide +kernel
theorem d140_27 : decode (cod 140) 27 = .ok (.iconst (-1), 1) := by decide +kernel
theorem d140_28 : decode (cod 140) 28 = .ok (.ireturn, 1) := by decide +kernel
theorem d140_29 : decode (cod 140) 29 = .ok (.aload_n 0, 1) := by decide +kernel
theorem d140_30 : decode (cod 140) 30 = .ok (.getfield 12, 3) := by decide +kernel
theorem d140_33 : decode (cod 140) 33 = .ok (.getfield 102, 3) := by decide +kernel
theorem d140_36 : decode (cod 140) 36 = .ok (.invokevirtual 120, 3) := by decide +kernel
theorem d140_39 : decode (cod 140) 39 = .ok (.istore_n 3, 1) := by decide +kernel
theorem d140_40 : decode (cod 140) 40 = .ok (.iload_n 3, 1) := by decide +kernel
theorem d140_41 : decode (cod 140) 41 = .ok (.ifCond .lt 8, 3) := by decide +kernel
theorem d140_44 : decode (cod 140) 44 = .ok (.bipush (-10), 2) := by decide +kernel
theorem d140_46 : decode (cod 140) 46 = .ok (.iload_n 3, 1) := by decide +kernel
theorem d140_47 : decode (cod 140) 47 = .ok (.isub, 1) := by decide +kernel
theorem d140_48 : decode (cod 140) 48 = .ok (.ireturn, 1) := by decide +kernel
theorem d140_49 : decode (cod 140) 49 = .ok (.aload_n 0, 1) := by decide +kernel
theorem d140_50 : decode (cod 140) 50 = .ok (.getfield 12, 3) := by decide +kernel
theorem d140_53 : decode (cod 140) 53 = .ok (.invokevirtual 54, 3) := by decide +kernel
theorem d140_56 : decode (cod 140) 56 = .ok (.istore 4, 2) := by decide +kernel
theorem d140_58 : decode (cod 140) 58 = .ok (.aload_n 0, 1) := by decide +kernel
theorem d140_59 : decode (cod 140) 59 = .ok (.getfield 12, 3) := by decide +kernel
theorem d140_62 : decode (cod 140) 62 = .ok (.getfield 102, 3) := by decide +kernel
theorem d140_65 : decode (cod 140) 65 = .ok (.iload 4, 2) := by decide +kernel
theorem d140_67 : decode (cod 140) 67 = .ok (.invokevirtual 123, 3) := by decide +kernel
theorem d140_70 : decode (cod 140) 70 = .ok (.pop, 1) := by decide +kernel
theorem d140_71 : decode (cod 140) 71 = .ok (.iload_n 1, 1) := by decide +kernel
theorem d140_72 : decode (cod 140) 72 = .ok (.ifCond .ne 16, 3) := by decide +kernel
theorem d140_75 : decode (cod 140) 75 = .ok (.aload_n 0, 1) := by decide +kernel
theorem d140_76 : decode (cod 140) 76 = .ok (.getfield 12, 3) := by decide +kernel
theorem d140_79 : decode (cod 140) 79 = .ok (.iload_n 2, 1) := by decide +kernel
theorem d140_80 : decode (cod 140) 80 = .ok (.iload 4, 2) := by decide +kernel
theorem d140_82 : decode (cod 140) 82 = .ok (.invokevirtual 169, 3) := by decide +kernel
theorem d140_85 : decode (cod 140) 85 = .ok (.goto 12, 3) := by decide +kernel
theorem d140_88 : decode (cod 140) 88 = .ok (.aload_n 0, 1) := by decide +kernel
theorem d140_89 : decode (cod 140) 89 = .ok (.getfield 12, 3) := by decide +kernel
theorem d140_92 : decode (cod 140) 92 = .ok (.iload 4, 2) := by decide +kernel
theorem d140_94 : decode (cod 140) 94 = .ok (.invokevirtual 308, 3) := by decide +kernel
theorem d140_97 : decode (cod 140) 97 = .ok (.istore 5, 2) := by decide +kernel
theorem d140_99 : decode (cod 140) 99 = .ok (.aload_n 0, 1) := by decide +kernel
theorem d140_100 : decode (cod 140) 100 = .ok (.getfield 12, 3) := by decide +kernel
theorem d140_103 : decode (cod 140) 103 = .ok (.getfield 102, 3) := by decide +kernel
theorem d140_106 : decode (cod 140) 106 = .ok (.invokevirtual 311, 3) := by decide +kernel
theorem d140_109 : decode (cod 140) 109 = .ok (.iload 5, 2) := by decide +kernel
theorem d140_111 : decode (cod 140) 111 = .ok (.ireturn, 1) := by decide +kernel
theorem d141_0 : decode (cod 141) 0 = .ok (.aload_n 0, 1) := by decide +kernel
theorem d141_1 : decode (cod 141) 1 = .ok (.getfield 37, 3) := by decide +kernel
theorem d141_4 : decode (cod 141) 4 = .ok (.ifnonnull 14, 3) := by decide +kernel
theorem d141_7 : decode (cod 141) 7 = .ok (.aload_n 0, 1) := by decide +kernel
theorem d141_8 : decode (cod 141) 8 = .ok (.new 9, 3) := by decide +kernel
theorem d141_11 : decode (cod 141) 11 = .ok (.dup, 1) := by decide +kernel
theorem d141_12 : decode (cod 141) 12 = .ok (.invokespecial 11, 3) := by decide +kernel
theorem d141_15 : decode (cod 141) 15 = .ok (.putfield 37, 3) := by decide +kernel
theorem d141_18 : decode (cod 141) 18 = .ok (.aload_n 0, 1) := by decide +kernel
theorem d141_19 : decode (cod 141) 19 = .ok (.getfield 37, 3) := by decide +kernel
theorem d141_22 : decode (cod 141) 22 = .ok (.aload_n 0, 1) := by decide +kernel
theorem d141_23 : decode (cod 141) 23 = .ok (.getfield 12, 3) := by decide +kernel
theorem d141_26 : decode (cod 141) 26 = .ok (.invokevirtual 314, 3) := by decide +kernel
theorem d141_29 : decode (cod 141) 29 = .ok (.aload_n 0, 1) := by decide +kernel
theorem d141_30 : decode (cod 141) 30 = .ok (.getfield 12, 3) := by decide +kernel
theorem d141_33 : decode (cod 141) 33 = .ok (.getfield 153, 3) := by decide +kernel
theorem d141_36 : decode (cod 141) 36 = .ok (.ireturn, 1) := by decide +kernel
theorem d142_0 : decode (cod 142) 0 = .ok (.aload_n 0, 1) := by decide +kernel
theorem d142_1 : decode (cod 142) 1 = .ok (.getfield 37, 3) := by decide +kernel
theorem d142_4 : decode (cod 142) 4 = .ok (.ifnonnull 6, 3) := by decide +kernel
theorem d142_7 : decode (cod 142) 7 = .ok (.bipush (-3), 2) := by decide +kernel
theorem d142_9 : decode (cod 142) 9 = .ok (.ireturn, 1) := by decide +kernel
theorem d142_10 : decode (cod 142) 10 = .ok (.aload_n 0, 1) := by decide +kernel
theorem d142_11 : decode (cod 142) 11 = .ok (.getfield 12, 3) := by decide +kernel
theorem d142_14 : decode (cod 142) 14 = .ok (.aload_n 0, 1) := by decide +kernel
theorem d142_15 : decode (cod 142) 15 = .ok (.getfield 37, 3) := by decide +kernel
theorem d142_18 : decode (cod 142) 18 = .ok (.invokevirtual 314, 3) := by decide +kernel
theorem d142_21 : decode (cod 142) 21 = .ok (.aload_n 0, 1) := by decide +kernel
theorem d142_22 : decode (cod 142) 22 = .ok (.getfield 12, 3) := by decide +kernel
theorem d142_25 : decode (cod 142) 25 = .ok (.getfield 153, 3) := by decide +kernel
theorem d142_28 : decode (cod 142) 28 = .ok (.ireturn, 1) := by decide +kernel
theorem d143_0 : decode (cod 143) 0 = .ok (.iload_n 1, 1) := by decide +kernel
theorem d143_1 : decode (cod 143) 1 = .ok (.tableswitch 153 0 8 #[51, 62, 73, 84, 92, 104, 116, 128, 142], 51) := by decide +kernel
theorem d143_52 : decode (cod 143) 52 = .ok (.aload_n 0, 1) := by decide +kernel
theorem d143_53 : decode (cod 143) 53 = .ok (.getfield 12, 3) := by decide +kernel
theorem d143_56 : decode (cod 143) 56 = .ok (.getfield 44, 3) := by decide +kernel
theorem d143_59 : decode (cod 143) 59 = .ok (.getfield 48, 3) := by decide +kernel
theorem d143_62 : decode (cod 143) 62 = .ok (.ireturn, 1) := by decide +kernel
theorem d143_63 : decode (cod 143) 63 = .ok (.aload_n 0, 1) := by decide +kernel
theorem d143_64 : decode (cod 143) 64 = .ok (.getfield 12, 3) := by decide +kernel
theorem d143_67 : decode (cod 143) 67 = .ok (.getfield 102, 3) := by decide +kernel
theorem d143_70 : decode (cod 143) 70 = .ok (.getfield 119, 3) := by decide +kernel
theorem d143_73 : decode (cod 143) 73 = .ok (.ireturn, 1) := by decide +kernel
theorem d143_74 : decode (cod 143) 74 = .ok (.aload_n 0, 1) := by decide +kernel
theorem d143_75 : decode (cod 143) 75 = .ok (.getfield 12, 3) := by decide +kernel
theorem d143_78 : decode (cod 143) 78 = .ok (.getfield 143, 3) := by decide +kernel
theorem d143_81 : decode (cod 143) 81 = .ok (.getfield 147, 3) := by decide +kernel
theorem d143_84 : decode (cod 143) 84 = .ok (.ireturn, 1) := by decide +kernel
theorem d143_85 : decode (cod 143) 85 = .ok (.aload_n 0, 1) := by decide +kernel
theorem d143_86 : decode (cod 143) 86 = .ok (.getfield 12, 3) := by decide +kernel
theorem d143_89 : decode (cod 143) 89 = .ok (.getfield 153, 3) := by decide +kernel
theorem d143_92 : decode (cod 143) 92 = .ok (.ireturn, 1) := by decide +kernel
theorem d143_93 : decode (cod 143) 93 = .ok (.aload_n 0, 1) := by decide +kernel
theorem d143_94 : decode (cod 143) 94 = .ok (.getfield 12, 3) := by decide +kernel
theorem d143_97 : decode (cod 143) 97 = .ok (.getfield 143, 3) := by decide +kernel
theorem d143_100 : decode (cod 143) 100 = .ok (.iconst 0, 1) := by decide +kernel
theorem d143_101 : decode (cod 143) 101 = .ok (.invokevirtual 318, 3) := by decide +kernel
theorem d143_104 : decode (cod 143) 104 = .ok (.ireturn, 1) := by decide +kernel
theorem d143_105 : decode (cod 143) 105 = .ok (.aload_n 0, 1) := by decide +kernel
theorem d143_106 : decode (cod 143) 106 = .ok (.getfield 12, 3) := by decide +kernel
theorem d143_109 : decode (cod 143) 109 = .ok (.getfield 143, 3) := by decide +kernel
theorem d143_112 : decode (cod 143) 112 = .ok (.iconst 1, 1) := by decide +kernel
theorem d143_113 : decode (cod 143) 113 = .ok (.invokevirtual 318, 3) := by decide +kernel
theorem d143_116 : decode (cod 143) 116 = .ok (.ireturn, 1) := by decide +kernel
theorem d143_117 : decode (cod 143) 117 = .ok (.aload_n 0, 1) := by decide +kernel
theorem d143_118 : decode (cod 143) 118 = .ok (.getfield 12, 3) := by decide +kernel
theorem d143_121 : decode (cod 143) 121 = .ok (.getfield 143, 3) := by decide +kernel
theorem d143_124 : decode (cod 143) 124 = .ok (.iconst 3, 1) := by decide +kernel
theorem d143_125 : decode (cod 143) 125 = .ok (.invokevirtual 318, 3) := by decide +kernel
theorem d143_128 : decode (cod 143) 128 = .ok (.ireturn, 1) := by decide +kernel
theorem d143_129 : decode (cod 143) 129 = .ok (.aload_n 0, 1) := by decide +kernel
theorem d143_130 : decode (cod 143) 130 = .ok (.getfield 12, 3) := by decide +kernel
theorem d143_133 : decode (cod 143) 133 = .ok (.getfield 102, 3) := by decide +kernel
theorem d143_136 : decode (cod 143) 136 = .ok (.getfield 106, 3) := by decide +kernel
theorem d143_139 : decode (cod 143) 139 = .ok (.getfield 112, 3) := by decide +kernel
theorem d143_142 : decode (cod 143) 142 = .ok (.ireturn, 1) := by decide +kernel
theorem d143_143 : decode (cod 143) 143 = .ok (.aload_n 0, 1) := by decide +kernel
theorem d143_144 : decode (cod 143) 144 = .ok (.getfield 12, 3) := by decide +kernel
theorem d143_147 : decode (cod 143) 147 = .ok (.getfield 294, 3) := by decide +kernel
theorem d143_150 : decode (cod 143) 150 = .ok (.getfield 298, 3) := by decide +kernel
theorem d143_153 : decode (cod 143) 153 = .ok (.ireturn, 1) := by decide +kernel
theorem d143_154 : decode (cod 143) 154 = .ok (.iconst (-1), 1) := by decide +kernel
theorem d143_155 : decode (cod 143) 155 = .ok (.ireturn, 1) := by decide +kernel
theorem d144_0 : decode (cod 144) 0 = .ok (.iload_n 0, 1) := by decide +kernel
theorem d144_1 : decode (cod 144) 1 = .ok (.iload_n 1, 1) := by decide +kernel
theorem d144_2 : decode (cod 144) 2 = .ok (.if_icmp .lt 12, 3) := by decide +kernel
theorem d144_5 : decode (cod 144) 5 = .ok (.iload_n 0, 1) := by decide +kernel
theorem d144_6 : decode (cod 144) 6 = .ok (.iload_n 2, 1) := by decide +kernel
theorem d144_7 : decode (cod 144) 7 = .ok (.if_icmp .gt 7, 3) := by decide +kernel
theorem d144_10 : decode (cod 144) 10 = .ok (.iconst 1, 1) := by decide +kernel
theorem d144_11 : decode (cod 144) 11 = .ok (.goto 4, 3) := by decide +kernel
theorem d144_14 : decode (cod 144) 14 = .ok (.iconst 0, 1) := by decide +kernel
theorem d144_15 : decode (cod 144) 15 = .ok (.ireturn, 1) := by decide +kernel
theorem d145_0 : decode (cod 145) 0 = .ok (.iload_n 0, 1) := by decide +kernel
theorem d145_1 : decode (cod 145) 1 = .ok (.iconst 0, 1) := by decide +kernel
theorem d145_2 : decode (cod 145) 2 = .ok (.iconst 3, 1) := by decide +kernel
theorem d145_3 : decode (cod 145) 3 = .ok (.invokestatic 40, 3) := by decide +kernel
theorem d145_6 : decode (cod 145) 6 = .ok (.ifCond .eq 17, 3) := by decide +kernel
theorem d145_9 : decode (cod 145) 9 = .ok (.iload_n 1, 1) := by decide +kernel
theorem d145_10 : decode (cod 145) 10 = .ok (.iconst 0, 1) := by decide +kernel
theorem d145_11 : decode (cod 145) 11 = .ok (.bipush 9, 2) := by decide +kernel
theorem d145_13 : decode (cod 145) 13 = .ok (.invokestatic 40, 3) := by decide +kernel
theorem d145_16 : decode (cod 145) 16 = .ok (.ifCond .eq 7, 3) := by decide +kernel
theorem d145_19 : decode (cod 145) 19 = .ok (.iconst 1, 1) := by decide +kernel
theorem d145_20 : decode (cod 145) 20 = .ok (.goto 4, 3) := by decide +kernel
theorem d145_23 : decode (cod 145) 23 = .ok (.iconst 0, 1) := by decide +kernel
theorem d145_24 : decode (cod 145) 24 = .ok (.ireturn, 1) := by decide +kernel
theorem d146_0 : decode (cod 146) 0 = .ok (.iload_n 1, 1) := by decide +kernel
theorem d146_1 : decode (cod 146) 1 = .ok (.iconst 0, 1) := by decide +kernel
theorem d146_2 : decode (cod 146) 2 = .ok (.bipush 6, 2) := by decide +kernel
theorem d146_4 : decode (cod 146) 4 = .ok (.invokestatic 40, 3) := by decide +kernel
theorem d146_7 : decode (cod 146) 7 = .ok (.ifCond .eq 28, 3) := by decide +kernel
theorem d146_10 : decode (cod 146) 10 = .ok (.iload_n 1, 1) := by decide +kernel
theorem d146_11 : decode (cod 146) 11 = .ok (.invokestatic 321, 3) := by decide +kernel
theorem d146_14 : decode (cod 146) 14 = .ok (.ifCond .eq 17, 3) := by decide +kernel
theorem d146_17 : decode (cod 146) 17 = .ok (.aload_n 0, 1) := by decide +kernel
theorem d146_18 : decode (cod 146) 18 = .ok (.getfield 12, 3) := by decide +kernel
theorem d146_21 : decode (cod 146) 21 = .ok (.getfield 143, 3) := by decide +kernel
theorem d146_24 : decode (cod 146) 24 = .ok (.iload_n 2, 1) := by decide +kernel
theorem d146_25 : decode (cod 146) 25 = .ok (.invokevirtual 159, 3) := by decide +kernel
theorem d146_28 : decode (cod 146) 28 = .ok (.ifCond .eq 7, 3) := by decide +kernel
theorem d146_31 : decode (cod 146) 31 = .ok (.iconst 1, 1) := by decide +kernel
theorem d146_32 : decode (cod 146) 32 = .ok (.goto 4, 3) := by decide +kernel
theorem d146_35 : decode (cod 146) 35 = .ok (.iconst 0, 1) := by decide +kernel
theorem d146_36 : decode (cod 146) 36 = .ok (.ireturn, 1) := by decide +kernel
theorem d147_0 : decode (cod 147) 0 = .ok (.iload_n 1, 1) := by decide +kernel
theorem d147_1 : decode (cod 147) 1 = .ok (.iconst 1, 1) := by decide +kernel
theorem d147_2 : decode (cod 147) 2 = .ok (.bipush 20, 2) := by decide +kernel
theorem d147_4 : decode (cod 147) 4 = .ok (.aload_n 0, 1) := by decide +kernel
theorem d147_5 : decode (cod 147) 5 = .ok (.getfield 12, 3) := by decide +kernel
theorem d147_8 : decode (cod 147) 8 = .ok (.iconst 3, 1) := by decide +kernel
theorem d147_9 : decode (cod 147) 9 = .ok (.iconst (-1), 1) := by decide +kernel
theorem d147_10 : decode (cod 147) 10 = .ok (.aload_n 0, 1) := by decide +kernel
theorem d147_11 : decode (cod 147) 11 = .ok (.getfield 12, 3) := by decide +kernel
theorem d147_14 : decode (cod 147) 14 = .ok (.invokevirtual 54, 3) := by decide +kernel
theorem d147_17 : decode (cod 147) 17 = .ok (.invokevirtual 129, 3) := by decide +kernel
theorem d147_20 : decode (cod 147) 20 = .ok (.invokestatic 87, 3) := by decide +kernel
theorem d147_23 : decode (cod 147) 23 = .ok (.invokestatic 40, 3) := by decide +kernel
theorem d147_26 : decode (cod 147) 26 = .ok (.ireturn, 1) := by decide +kernel
theorem d148_0 : decode (cod 148) 0 = .ok (.iload_n 0, 1) := by decide +kernel
theorem d148_1 : decode (cod 148) 1 = .ok (.iload_n 1, 1) := by decide +kernel
theorem d148_2 : decode (cod 148) 2 = .ok (.if_icmp .lt 12, 3) := by decide +kernel
theorem d148_5 : decode (cod 148) 5 = .ok (.iload_n 0, 1) := by decide +kernel
theorem d148_6 : decode (cod 148) 6 = .ok (.iload_n 2, 1) := by decide +kernel
theorem d148_7 : decode (cod 148) 7 = .ok (.if_icmp .gt 7, 3) := by decide +kernel
theorem d148_10 : decode (cod 148) 10 = .ok (.iconst 1, 1) := by decide +kernel
theorem d148_11 : decode (cod 148) 11 = .ok (.goto 4, 3) := by decide +kernel
theorem d148_14 : decode (cod 148) 14 = .ok (.iconst 0, 1) := by decide +kernel
theorem d148_15 : decode (cod 148) 15 = .ok (.ireturn, 1) := by decide +kernel
theorem d149_0 : decode (cod 149) 0 = .ok (.aload_n 0, 1) := by decide +kernel
theorem d149_1 : decode (cod 149) 1 = .ok (.invokespecial 7, 3) := by decide +kernel
theorem d149_4 : decode (cod 149) 4 = .ok (.aload_n 0, 1) := by decide +kernel
theorem d149_5 : decode (cod 149) 5 = .ok (.sipush 2456, 3) := by decide +kernel
theorem d149_8 : decode (cod 149) 8 = .ok (.newarray .int, 2) := by decide +kernel
theorem d149_10 : decode (cod 149) 10 = .ok (.putfield 13, 3) := by decide +kernel
theorem d149_13 : decode (cod 149) 13 = .ok (.aload_n 0, 1) := by decide +kernel
theorem d149_14 : decode (cod 149) 14 = .ok (.bipush 7, 2) := by decide +kernel
theorem d149_16 : decode (cod 149) 16 = .ok (.newarray .int, 2) := by decide +kernel
theorem d149_18 : decode (cod 149) 18 = .ok (.putfield 17, 3) := by decide +kernel
theorem d149_21 : decode (cod 149) 21 = .ok (.aload_n 0, 1) := by decide +kernel
theorem d149_22 : decode (cod 149) 22 = .ok (.bipush 7, 2) := by decide +kernel
theorem d149_24 : decode (cod 149) 24 = .ok (.newarray .int, 2) := by decide +kernel
theorem d149_26 : decode (cod 149) 26 = .ok (.putfield 20, 3) := by decide +kernel
theorem d149_29 : decode (cod 149) 29 = .ok (.aload_n 0, 1) := by decide +kernel
theorem d149_30 : decode (cod 149) 30 = .ok (.bipush 60, 2) := by decide +kernel
theorem d149_32 : decode (cod 149) 32 = .ok (.newarray .boolean, 2) := by decide +kernel
theorem d149_34 : decode (cod 149) 34 = .ok (.putfield 23, 3) := by decide +kernel
theorem d149_37 : decode (cod 149) 37 = .ok (.aload_n 0, 1) := by decide +kernel
theorem d149_38 : decode (cod 149) 38 = .ok (.bipush 60, 2) := by decide +kernel
theorem d149_40 : decode (cod 149) 40 = .ok (.newarray .int, 2) := by decide +kernel
theorem d149_42 : decode (cod 149) 42 = .ok (.putfield 27, 3) := by decide +kernel
theorem d149_45 : decode (cod 149) 45 = .ok (.aload_n 0, 1) := by decide +kernel
theorem d149_46 : decode (cod 149) 46 = .ok (.sipush 144, 3) := by decide +kernel
theorem d149_49 : decode (cod 149) 49 = .ok (.newarray .int, 2) := by decide +kernel
theorem d149_51 : decode (cod 149) 51 = .ok (.putfield 30, 3) := by decide +kernel
theorem d149_54 : decode (cod 149) 54 = .ok (.aload_n 0, 1) := by decide +kernel
theorem d149_55 : decode (cod 149) 55 = .ok (.sipush 2456, 3) := by decide +kernel
theorem d149_58 : decode (cod 149) 58 = .ok (.newarray .int, 2) := by decide +kernel
theorem d149_60 : decode (cod 149) 60 = .ok (.putfield 33, 3) := by decide +kernel
theorem d149_63 : decode (cod 149) 63 = .ok (.return_, 1) := by decide +kernel
theorem d150_0 : decode (cod 150) 0 = .ok (.iload_n 0, 1) := by decide +kernel
theorem d150_1 : decode (cod 150) 1 = .ok (.iconst 0, 1) := by decide +kernel
theorem d150_2 : decode (cod 150) 2 = .ok (.iconst 3, 1) := by decide +kernel
theorem d150_3 : decode (cod 150) 3 = .ok (.invokestatic 36, 3) := by decide +kernel
theorem d150_6 : decode (cod 150) 6 = .ok (.ireturn, 1) := by decide +kernel
theorem d151_0 : decode (cod 151) 0 = .ok (.iload_n 1, 1) := by decide +kernel
theorem d151_1 : decode (cod 151) 1 = .ok (.iconst 0, 1) := by decide +kernel
theorem d151_2 : decode (cod 151) 2 = .ok (.aload_n 0, 1) := by decide +kernel
theorem d151_3 : decode (cod 151) 3 = .ok (.getfield 13, 3) := by decide +kernel
theorem d151_6 : decode (cod 151) 6 = .ok (.iconst 0, 1) := by decide +kernel
theorem d151_7 : decode (cod 151) 7 = .ok (.iaload, 1) := by decide +kernel
theorem d151_8 : decode (cod 151) 8 = .ok (.iconst 1, 1) := by decide +kernel
theorem d151_9 : decode (cod 151) 9 = .ok (.isub, 1) := by decide +kernel
theorem d151_10 : decode (cod 151) 10 = .ok (.invokestatic 36, 3) := by decide +kernel
theorem d151_13 : decode (cod 151) 13 = .ok (.ireturn, 1) := by decide +kernel
theorem d152_0 : decode (cod 152) 0 = .ok (.iload_n 1, 1) := by decide +kernel
theorem d152_1 : decode (cod 152) 1 = .ok (.iconst 0, 1) := by decide +kernel
theorem d152_2 : decode (cod 152) 2 = .ok (.aload_n 0, 1) := by decide +kernel
theorem d152_3 : decode (cod 152) 3 = .ok (.getfield 13, 3) := by decide +kernel
theorem d152_6 : decode (cod 152) 6 = .ok (.iconst 2, 1) := by decide +kernel
theorem d152_7 : decode (cod 152) 7 = .ok (.iaload, 1) := by decide +kernel
theorem d152_8 : decode (cod 152) 8 = .ok (.iconst 1, 1) := by decide +kernel
theorem d152_9 : decode (cod 152) 9 = .ok (.isub, 1) := by decide +kernel
theorem d152_10 : decode (cod 152) 10 = .ok (.invokestatic 36, 3) := by decide +kernel
theorem d152_13 : decode (cod 152) 13 = .ok (.ireturn, 1) := by decide +kernel
theorem d153_0 : decode (cod 153) 0 = .ok (.aload_n 0, 1) := by decide +kernel
theorem d153_1 : decode (cod 153) 1 = .ok (.getfield 13, 3) := by decide +kernel
theorem d153_4 : decode (cod 153) 4 = .ok (.bipush 32, 2) := by decide +kernel
theorem d153_6 : decode (cod 153) 6 = .ok (.iconst 5, 1) := by decide +kernel
theorem d153_7 : decode (cod 153) 7 = .ok (.iload_n 1, 1) := by decide +kernel
theorem d153_8 : decode (cod 153) 8 = .ok (.imul, 1) := by decide +kernel
theorem d153_9 : decode (cod 153) 9 = .ok (.iadd, 1) := by decide +kernel
theorem d153_10 : decode (cod 153) 10 = .ok (.iload_n 2, 1) := by decide +kernel
theorem d153_11 : decode (cod 153) 11 = .ok (.iadd, 1) := by decide +kernel
theorem d153_12 : decode (cod 153) 12 = .ok (.iaload, 1) := by decide +kernel
theorem d153_13 : decode (cod 153) 13 = .ok (.ireturn, 1) := by decide +kernel
theorem d154_0 : decode (cod 154) 0 = .ok (.aload_n 0, 1) := by decide +kernel
theorem d154_1 : decode (cod 154) 1 = .ok (.getfield 13, 3) := by decide +kernel
theorem d154_4 : decode (cod 154) 4 = .ok (.sipush 1312, 3) := by decide +kernel
theorem d154_7 : decode (cod 154) 7 = .ok (.bipush 8, 2) := by decide +kernel
theorem d154_9 : decode (cod 154) 9 = .ok (.iload_n 1, 1) := by decide +kernel
theorem d154_10 : decode (cod 154) 10 = .ok (.imul, 1) := by decide +kernel
theorem d154_11 : decode (cod 154) 11 = .ok (.iadd, 1) := by decide +kernel
theorem d154_12 : decode (cod 154) 12 = .ok (.iload_n 2, 1) := by decide +kernel
theorem d154_13 : decode (cod 154) 13 = .ok (.iadd, 1) := by decide +kernel
theorem d154_14 : decode (cod 154) 14 = .ok (.iaload, 1) := by decide +kernel
theorem d154_15 : decode (cod 154) 15 = .ok (.ireturn, 1) := by decide +kernel
theorem d155_0 : decode (cod 155) 0 = .ok (.aload_n 0, 1) := by decide +kernel
theorem d155_1 : decode (cod 155) 1 = .ok (.getfield 13, 3) := by decide +kernel
theorem d155_4 : decode (cod 155) 4 = .ok (.iconst 3, 1) := by decide +kernel
theorem d155_5 : decode (cod 155) 5 = .ok (.iaload, 1) := by decide +kernel
theorem d155_6 : decode (cod 155) 6 = .ok (.bipush 100, 2) := by decide +kernel
theorem d155_8 : decode (cod 155) 8 = .ok (.idiv, 1) := by decide +kernel
theorem d155_9 : decode (cod 155) 9 = .ok (.ireturn, 1) := by decide +kernel
theorem d156_0 : decode (cod 156) 0 = .ok (.iload_n 0, 1) := by decide +kernel
theorem d156_1 : decode (cod 156) 1 = .ok (.iconst 0, 1) := by decide +kernel
theorem d156_2 : decode (cod 156) 2 = .ok (.sipush 400, 3) := by decide +kernel
theorem d156_5 : decode (cod 156) 5 = .ok (.invokestatic 36, 3) := by decide +kernel
theorem d156_8 : decode (cod 156) 8 = .ok (.ireturn, 1) := by decide +kernel
theorem d157_0 : decode (cod 157) 0 = .ok (.iload_n 1, 1) := by decide +kernel
theorem d157_1 : decode (cod 157) 1 = .ok (.invokestatic 40, 3) := by decide +kernel
theorem d157_4 : decode (cod 157) 4 = .ok (.ifCond .eq 13, 3) := by decide +kernel
theorem d157_7 : decode (cod 157) 7 = .ok (.iload_n 2, 1) := by decide +kernel
theorem d157_8 : decode (cod 157) 8 = .ok (.iconst 0, 1) := by decide +kernel
theorem d157_9 : decode (cod 157) 9 = .ok (.bipush 9, 2) := by decide +kernel
theorem d157_11 : decode (cod 157) 11 = .ok (.invokestatic 36, 3) := by decide +kernel
theorem d157_14 : decode (cod 157) 14 = .ok (.ifCond .ne 5, 3) := by decide +kernel
theorem d157_17 : decode (cod 157) 17 = .ok (.iconst (-1), 1) := by decide +kernel
theorem d157_18 : decode (cod 157) 18 = .ok (.ireturn, 1) := by decide +kernel
theorem d157_19 : decode (cod 157) 19 = .ok (.iload_n 3, 1) := by decide +kernel
theorem d157_20 : decode (cod 157) 20 = .ok (.iconst 0, 1) := by decide +kernel
theorem d157_21 : decode (cod 157) 21 = .ok (.bipush 9, 2) := by decide +kernel
theorem d157_23 : decode (cod 157) 23 = .ok (.invokestatic 36, 3) := by decide +kernel
theorem d157_26 : decode (cod 157) 26 = .ok (.ifCond .ne 6, 3) := by decide +kernel
theorem d157_29 : decode (cod 157) 29 = .ok (.bipush (-2), 2) := by decide +kernel
theorem d157_31 : decode (cod 157) 31 = .ok (.ireturn, 1) := by decide +kernel
theorem d157_32 : decode (cod 157) 32 = .ok (.aload_n 0, 1) := by decide +kernel
theorem d157_33 : decode (cod 157) 33 = .ok (.getfield 13, 3) := by decide +kernel
theorem d157_36 : decode (cod 157) 36 = .ok (.iconst 0, 1) := by decide +kernel
theorem d157_37 : decode (cod 157) 37 = .ok (.iaload, 1) := by decide +kernel
theorem d157_38 : decode (cod 157) 38 = .ok (.bipush 12, 2) := by decide +kernel
theorem d157_40 : decode (cod 157) 40 = .ok (.if_icmp .ne 6, 3) := by decide +kernel
theorem d157_43 : decode (cod 157) 43 = .ok (.bipush (-4), 2) := by decide +kernel
theorem d157_45 : decode (cod 157) 45 = .ok (.ireturn, 1) := by decide +kernel
theorem d157_46 : decode (cod 157) 46 = .ok (.bipush 32, 2) := by decide +kernel
theorem d157_48 : decode (cod 157) 48 = .ok (.iconst 5, 1) := by decide +kernel
theorem d157_49 : decode (cod 157) 49 = .ok (.aload_n 0, 1) := by decide +kernel
theorem d157_50 : decode (cod 157) 50 = .ok (.getfield 13, 3) := by decide +kernel
theorem d157_53 : decode (cod 157) 53 = .ok (.iconst 0, 1) := by decide +kernel
theorem d157_54 : decode (cod 157) 54 = .ok (.iaload, 1) := by decide +kernel
theorem d157_55 : decode (cod 157) 55 = .ok (.imul, 1) := by decide +kernel
theorem d157_56 : decode (cod 157) 56 = .ok (.iadd, 1) := by decide +kernel
theorem d157_57 : decode (cod 157) 57 = .ok (.istore 4, 2) := by decide +kernel
theorem d157_59 : decode (cod 157) 59 = .ok (.aload_n 0, 1) := by decide +kernel
theorem d157_60 : decode (cod 157) 60 = .ok (.getfield 13, 3) := by decide +kernel
theorem d157_63 : decode (cod 157) 63 = .ok (.iload 4, 2) := by decide +kernel
theorem d157_65 : decode (cod 157) 65 = .ok (.iconst 0, 1) := by decide +kernel
theorem d157_66 : decode (cod 157) 66 = .ok (.iadd, 1) := by decide +kernel
theorem d157_67 : decode (cod 157) 67 = .ok (.iload_n 1, 1) := by decide +kernel
theorem d157_68 : decode (cod 157) 68 = .ok (.iastore, 1) := by decide +kernel
theorem d157_69 : decode (cod 157) 69 = .ok (.aload_n 0, 1) := by decide +kernel
theorem d157_70 : decode (cod 157) 70 = .ok (.getfield 13, 3) := by decide +kernel
theorem d157_73 : decode (cod 157) 73 = .ok (.iload 4, 2) := by decide +kernel
theorem d157_75 : decode (cod 157) 75 = .ok (.iconst 1, 1) := by decide +kernel
theorem d157_76 : decode (cod 157) 76 = .ok (.iadd, 1) := by decide +kernel
theorem d157_77 : decode (cod 157) 77 = .ok (.iload_n 2, 1) := by decide +kernel
theorem d157_78 : decode (cod 157) 78 = .ok (.iastore, 1) := by decide +kernel
theorem d157_79 : decode (cod 157) 79 = .ok (.aload_n 0, 1) := by decide +kernel
theorem d157_80 : decode (cod 157) 80 = .ok (.getfield 13, 3) := by decide +kernel
theorem d157_83 : decode (cod 157) 83 = .ok (.iload 4, 2) := by decide +kernel
theorem d157_85 : decode (cod 157) 85 = .ok (.iconst 2, 1) := by decide +kernel
theorem d157_86 : decode (cod 157) 86 = .ok (.iadd, 1) := by decide +kernel
theorem d157_87 : decode (cod 157) 87 = .ok (.iload_n 3, 1) := by decide +kernel
theorem d157_88 : decode (cod 157) 88 = .ok (.iastore, 1) := by decide +kernel
theorem d157_89 : decode (cod 157) 89 = .ok (.aload_n 0, 1) := by decide +kernel
theorem d157_90 : decode (cod 157) 90 = .ok (.getfield 13, 3) := by decide +kernel
theorem d157_93 : decode (cod 157) 93 = .ok (.iload 4, 2) := by decide +kernel
theorem d157_95 : decode (cod 157) 95 = .ok (.iconst 3, 1) := by decide +kernel
theorem d157_96 : decode (cod 157) 96 = .ok (.iadd, 1) := by decide +kernel
theorem d157_97 : decode (cod 157) 97 = .ok (.iconst 0, 1) := by decide +kernel
theorem d157_98 : decode (cod 157) 98 = .ok (.iastore, 1) := by decide +kernel
theorem d157_99 : decode (cod 157) 99 = .ok (.aload_n 0, 1) := by decide +kernel
theorem d157_100 : decode (cod 157) 100 = .ok (.getfield 13, 3) := by decide +kernel
theorem d157_103 : decode (cod 157) 103 = .ok (.iload 4, 2) := by decide +kernel
theorem d157_105 : decode (cod 157) 105 = .ok (.iconst 4, 1) := by decide +kernel
theorem d157_106 : decode (cod 157) 106 = .ok (.iadd, 1) := by decide +kernel
theorem d157_107 : decode (cod 157) 107 = .ok (.aload_n 0, 1) := by decide +kernel
theorem d157_108 : decode (cod 157) 108 = .ok (.invokevirtual 44, 3) := by decide +kernel
theorem d157_111 : decode (cod 157) 111 = .ok (.iastore, 1) := by decide +kernel
theorem d157_112 : decode (cod 157) 112 = .ok (.aload_n 0, 1) := by decide +kernel
theorem d157_113 : decode (cod 157) 113 = .ok (.getfield 13, 3) := by decide +kernel
theorem d157_116 : decode (cod 157) 116 = .ok (.iconst 0, 1) := by decide +kernel
theorem d157_117 : decode (cod 157) 117 = .ok (.dup2, 1) := by decide +kernel
theorem d157_118 : decode (cod 157) 118 = .ok (.iaload, 1) := by decide +kernel
theorem d157_119 : decode (cod 157) 119 = .ok (.iconst 1, 1) := by decide +kernel
theorem d157_120 : decode (cod 157) 120 = .ok (.iadd, 1) := by decide +kernel
theorem d157_121 : decode (cod 157) 121 = .ok (.iastore, 1) := by decide +kernel
theorem d157_122 : decode (cod 157) 122 = .ok (.aload_n 0, 1) := by decide +kernel
theorem d157_123 : decode (cod 157) 123 = .ok (.getfield 13, 3) := by decide +kernel
theorem d157_126 : decode (cod 157) 126 = .ok (.iconst 0, 1) := by decide +kernel
theorem d157_127 : decode (cod 157) 127 = .ok (.iaload, 1) := by decide +kernel
theorem d157_128 : decode (cod 157) 128 = .ok (.iconst 1, 1) := by decide +kernel
theorem d157_129 : decode (cod 157) 129 = .ok (.isub, 1) := by decide +kernel
theorem d157_130 : decode (cod 157) 130 = .ok (.ireturn, 1) := by decide +kernel
theorem d158_0 : decode (cod 158) 0 = .ok (.aload_n 0, 1) := by decide +kernel
theorem d158_1 : decode (cod 158) 1 = .ok (.iload_n 1, 1) := by decide +kernel
theorem d158_2 : decode (cod 158) 2 = .ok (.invokevirtual 48, 3) := by decide +kernel
theorem d158_5 : decode (cod 158) 5 = .ok (.ifCond .ne 5, 3) := by decide +kernel
theorem d158_8 : decode (cod 158) 8 = .ok (.iconst (-1), 1) := by decide +kernel
theorem d158_9 : decode (cod 158) 9 = .ok (.ireturn, 1) := by decide +kernel
theorem d158_10 : decode (cod 158) 10 = .ok (.iload_n 2, 1) := by decide +kernel
theorem d158_11 : decode (cod 158) 11 = .ok (.iconst 0, 1) := by decide +kernel
theorem d158_12 : decode (cod 158) 12 = .ok (.iconst 4, 1) := by decide +kernel
theorem d158_13 : decode (cod 158) 13 = .ok (.invokestatic 36, 3) := by decide +kernel
theorem d158_16 : decode (cod 158) 16 = .ok (.ifCond .eq 16, 3) := by decide +kernel
theorem d158_19 : decode (cod 158) 19 = .ok (.iload_n 3, 1) := by decide +kernel
theorem d158_20 : decode (cod 158) 20 = .ok (.iconst 0, 1) := by decide +kernel
theorem d158_21 : decode (cod 158) 21 = .ok (.iconst 1, 1) := by decide +kernel
theorem d158_22 : decode (cod 158) 22 = .ok (.iload_n 2, 1) := by decide +kernel
theorem d158_23 : decode (cod 158) 23 = .ok (.ishl, 1) := by decide +kernel
theorem d158_24 : decode (cod 158) 24 = .ok (.iconst 1, 1) := by decide +kernel
theorem d158_25 : decode (cod 158) 25 = .ok (.isub, 1) := by decide +kernel
theorem d158_26 : decode (cod 158) 26 = .ok (.invokestatic 36, 3) := by decide +kernel
theorem d158_29 : decode (cod 158) 29 = .ok (.ifCond .ne 6, 3) := by decide +kernel
theorem d158_32 : decode (cod 158) 32 = .ok (.bipush (-2), 2) := by decide +kernel
theorem d158_34 : decode (cod 158) 34 = .ok (.ireturn, 1) := by decide +kernel
theorem d158_35 : decode (cod 158) 35 = .ok (.aload_n 0, 1) := by decide +kernel
theorem d158_36 : decode (cod 158) 36 = .ok (.iload_n 1, 1) := by decide +kernel
theorem d158_37 : decode (cod 158) 37 = .ok (.iconst 3, 1) := by decide +kernel
theorem d158_38 : decode (cod 158) 38 = .ok (.invokevirtual 51, 3) := by decide +kernel
theorem d158_41 : decode (cod 158) 41 = .ok (.istore 4, 2) := by decide +kernel
theorem d158_43 : decode (cod 158) 43 = .ok (.aload_n 0, 1) := by decide +kernel
theorem d158_44 : decode (cod 158) 44 = .ok (.getfield 13, 3) := by decide +kernel
theorem d158_47 : decode (cod 158) 47 = .ok (.bipush 32, 2) := by decide +kernel
theorem d158_49 : decode (cod 158) 49 = .ok (.iconst 5, 1) := by decide +kernel
theorem d158_50 : decode (cod 158) 50 = .ok (.iload_n 1, 1) := by decide +kernel
theorem d158_51 : decode (cod 158) 51 = .ok (.imul, 1) := by decide +kernel
theorem d158_52 : decode (cod 158) 52 = .ok (.iadd, 1) := by decide +kernel
theorem d158_53 : decode (cod 158) 53 = .ok (.iconst 3, 1) := by decide +kernel
theorem d158_54 : decode (cod 158) 54 = .ok (.iadd, 1) := by decide +kernel
theorem d158_55 : decode (cod 158) 55 = .ok (.bipush 16, 2) := by decide +kernel
theorem d158_57 : decode (cod 158) 57 = .ok (.iload_n 2, 1) := by decide +kernel
theorem d158_58 : decode (cod 158) 58 = .ok (.imul, 1) := by decide +kernel
theorem d158_59 : decode (cod 158) 59 = .ok (.iload_n 3, 1) := by decide +kernel
theorem d158_60 : decode (cod 158) 60 = .ok (.iadd, 1) := by decide +kernel
theorem d158_61 : decode (cod 158) 61 = .ok (.iastore, 1) := by decide +kernel
theorem d158_62 : decode (cod 158) 62 = .ok (.iload 4, 2) := by decide +kernel
theorem d158_64 : decode (cod 158) 64 = .ok (.ireturn, 1) := by decide +kernel
theorem d159_0 : decode (cod 159) 0 = .ok (.iconst 0, 1) := by decide +kernel
theorem d159_1 : decode (cod 159) 1 = .ok (.istore_n 1, 1) := by decide +kernel
theorem d159_2 : decode (cod 159) 2 = .ok (.iload_n 0, 1) := by decide +kernel
theorem d159_3 : decode (cod 159) 3 = .ok (.istore_n 2, 1) := by decide +kernel
theorem d159_4 : decode (cod 159) 4 = .ok (.iload_n 2, 1) := by decide +kernel
theorem d159_5 : decode (cod 159) 5 = .ok (.ifCond .eq 15, 3) := by decide +kernel
theorem d159_8 : decode (cod 159) 8 = .ok (.iinc 1 1, 3) := by decide +kernel
theorem d159_11 : decode (cod 159) 11 = .ok (.iload_n 2, 1) := by decide +kernel
theorem d159_12 : decode (cod 159) 12 = .ok (.iload_n 2, 1) := by decide +kernel
theorem d159_13 : decode (cod 159) 13 = .ok (.iconst 1, 1) := by decide +kernel
theorem d159_14 : decode (cod 159) 14 = .ok (.isub, 1) := by decide +kernel
theorem d159_15 : decode (cod 159) 15 = .ok (.iand, 1) := by decide +kernel
theorem d159_16 : decode (cod 159) 16 = .ok (.istore_n 2, 1) := by decide +kernel
theorem d159_17 : decode (cod 159) 17 = .ok (.goto (-13), 3) := by decide +kernel
theorem d159_20 : decode (cod 159) 20 = .ok (.iload_n 1, 1) := by decide +kernel
theorem d159_21 : decode (cod 159) 21 = .ok (.ireturn, 1) := by decide +kernel
theorem d160_0 : decode (cod 160) 0 = .ok (.iload_n 0, 1) := by decide +kernel
theorem d160_1 : decode (cod 160) 1 = .ok (.bipush 16, 2) := by decide +kernel
theorem d160_3 : decode (cod 160) 3 = .ok (.idiv, 1) := by decide +kernel
theorem d160_4 : decode (cod 160) 4 = .ok (.istore_n 2, 1) := by decide +kernel
theorem d160_5 : decode (cod 160) 5 = .ok (.iload_n 1, 1) := by decide +kernel
theorem d160_6 : decode (cod 160) 6 = .ok (.bipush 16, 2) := by decide +kernel
theorem d160_8 : decode (cod 160) 8 = .ok (.idiv, 1) := by decide +kernel
theorem d160_9 : decode (cod 160) 9 = .ok (.istore_n 3, 1) := by decide +kernel
theorem d160_10 : decode (cod 160) 10 = .ok (.iload_n 2, 1) := by decide +kernel
theorem d160_11 : decode (cod 160) 11 = .ok (.ifCond .eq 7, 3) := by decide +kernel
theorem d160_14 : decode (cod 160) 14 = .ok (.iload_n 3, 1) := by decide +kernel
theorem d160_15 : decode (cod 160) 15 = .ok (.ifCond .ne 5, 3) := by decide +kernel
theorem d160_18 : decode (cod 160) 18 = .ok (.iconst 0, 1) := by decide +kernel
theorem d160_19 : decode (cod 160) 19 = .ok (.ireturn, 1) := by decide +kernel
theorem d160_20 : decode (cod 160) 20 = .ok (.iload_n 2, 1) := by decide +kernel
theorem d160_21 : decode (cod 160) 21 = .ok (.iload_n 3, 1) := by decide +kernel
theorem d160_22 : decode (cod 160) 22 = .ok (.if_icmp .ne 39, 3) := by decide +kernel
theorem d160_25 : decode (cod 160) 25 = .ok (.iload_n 0, 1) := by decide +kernel
theorem d160_26 : decode (cod 160) 26 = .ok (.iload_n 1, 1) := by decide +kernel
theorem d160_27 : decode (cod 160) 27 = .ok (.ixor, 1) := by decide +kernel
theorem d160_28 : decode (cod 160) 28 = .ok (.bipush 15, 2) := by decide +kernel
theorem d160_30 : decode (cod 160) 30 = .ok (.iand, 1) := by decide +kernel
theorem d160_31 : decode (cod 160) 31 = .ok (.invokestatic 55, 3) := by decide +kernel
theorem d160_34 : decode (cod 160) 34 = .ok (.istore 4, 2) := by decide +kernel
theorem d160_36 : decode (cod 160) 36 = .ok (.iload 4, 2) := by decide +kernel
theorem d160_38 : decode (cod 160) 38 = .ok (.ifCond .ne 8, 3) := by decide +kernel
theorem d160_41 : decode (cod 160) 41 = .ok (.bipush 9, 2) := by decide +kernel
theorem d160_43 : decode (cod 160) 43 = .ok (.goto 17, 3) := by decide +kernel
theorem d160_46 : decode (cod 160) 46 = .ok (.iload 4, 2) := by decide +kernel
theorem d160_48 : decode (cod 160) 48 = .ok (.iconst 3, 1) := by decide +kernel
theorem d160_49 : decode (cod 160) 49 = .ok (.if_icmp .le 7, 3) := by decide +kernel
theorem d160_52 : decode (cod 160) 52 = .ok (.iconst 0, 1) := by decide +kernel
theorem d160_53 : decode (cod 160) 53 = .ok (.goto 7, 3) := by decide +kernel
theorem d160_56 : decode (cod 160) 56 = .ok (.iconst 3, 1) := by decide +kernel
theorem d160_57 : decode (cod 160) 57 = .ok (.iload 4, 2) := by decide +kernel
theorem d160_59 : decode (cod 160) 59 = .ok (.isub, 1) := by decide +kernel
theorem d160_60 : decode (cod 160) 60 = .ok (.ireturn, 1) := by decide +kernel
theorem d160_61 : decode (cod 160) 61 = .ok (.iload_n 2, 1) := by decide +kernel
theorem d160_62 : decode (cod 160) 62 = .ok (.iload_n 3, 1) := by decide +kernel
theorem d160_63 : decode (cod 160) 63 = .ok (.iconst 1, 1) := by decide +kernel
theorem d160_64 : decode (cod 160) 64 = .ok (.iadd, 1) := by decide +kernel
theorem d160_65 : decode (cod 160) 65 = .ok (.if_icmp .eq 12, 3) := by decide +kernel
theorem d160_68 : decode (cod 160) 68 = .ok (.iload_n 3, 1) := by decide +kernel
theorem d160_69 : decode (cod 160) 69 = .ok (.iload_n 2, 1) := by decide +kernel
theorem d160_70 : decode (cod 160) 70 = .ok (.iconst 1, 1) := by decide +kernel
theorem d160_71 : decode (cod 160) 71 = .ok (.iadd, 1) := by decide +kernel
theorem d160_72 : decode (cod 160) 72 = .ok (.if_icmp .eq 5, 3) := by decide +kernel
theorem d160_75 : decode (cod 160) 75 = .ok (.iconst 0, 1) := by decide +kernel
theorem d160_76 : decode (cod 160) 76 = .ok (.ireturn, 1) := by decide +kernel
theorem d160_77 : decode (cod 160) 77 = .ok (.iload_n 2, 1) := by decide +kernel
theorem d160_78 : decode (cod 160) 78 = .ok (.iload_n 3, 1) := by decide +kernel
theorem d160_79 : decode (cod 160) 79 = .ok (.if_icmp .le 10, 3) := by decide +kernel
theorem d160_82 : decode (cod 160) 82 = .ok (.iload_n 0, 1) := by decide +kernel
theorem d160_83 : decode (cod 160) 83 = .ok (.bipush 16, 2) := by decide +kernel
theorem d160_85 : decode (cod 160) 85 = .ok (.irem, 1) := by decide +kernel
theorem d160_86 : decode (cod 160) 86 = .ok (.goto 7, 3) := by decide +kernel
theorem d160_89 : decode (cod 160) 89 = .ok (.iload_n 1, 1) := by decide +kernel
theorem d160_90 : decode (cod 160) 90 = .ok (.bipush 16, 2) := by decide +kernel
theorem d160_92 : decode (cod 160) 92 = .ok (.irem, 1) := by decide +kernel
theorem d160_93 : decode (cod 160) 93 = .ok (.istore 4, 2) := by decide +kernel
theorem d160_95 : decode (cod 160) 95 = .ok (.iload_n 2, 1) := by decide +kernel
theorem d160_96 : decode (cod 160) 96 = .ok (.iload_n 3, 1) := by decide +kernel
theorem d160_97 : decode (cod 160) 97 = .ok (.if_icmp .le 10, 3) := by decide +kernel
theorem d160_100 : decode (cod 160) 100 = .ok (.iload_n 1, 1) := by decide +kernel
theorem d160_101 : decode (cod 160) 101 = .ok (.bipush 16, 2) := by decide +kernel
theorem d160_103 : decode (cod 160) 103 = .ok (.irem, 1) := by decide +kernel
theorem d160_104 : decode (cod 160) 104 = .ok (.goto 7, 3) := by decide +kernel
theorem d160_107 : decode (cod 160) 107 = .ok (.iload_n 0, 1) := by decide +kernel
theorem d160_108 : decode (cod 160) 108 = .ok (.bipush 16, 2) := by decide +kernel
theorem d160_110 : decode (cod 160) 110 = .ok (.irem, 1) := by decide +kernel
theorem d160_111 : decode (cod 160) 111 = .ok (.istore 5, 2) := by decide +kernel
theorem d160_113 : decode (cod 160) 113 = .ok (.iload_n 2, 1) := by decide +kernel
theorem d160_114 : decode (cod 160) 114 = .ok (.iload_n 3, 1) := by decide +kernel
theorem d160_115 : decode (cod 160) 115 = .ok (.if_icmp .le 7, 3) := by decide +kernel
theorem d160_118 : decode (cod 160) 118 = .ok (.iload_n 2, 1) := by decide +kernel
theorem d160_119 : decode (cod 160) 119 = .ok (.goto 4, 3) := by decide +kernel
theorem d160_122 : decode (cod 160) 122 = .ok (.iload_n 3, 1) := by decide +kernel
theorem d160_123 : decode (cod 160) 123 = .ok (.istore 6, 2) := by decide +kernel
theorem d160_125 : decode (cod 160) 125 = .ok (.iconst 0, 1) := by decide +kernel
theorem d160_126 : decode (cod 160) 126 = .ok (.istore 7, 2) := by decide +kernel
theorem d160_128 : decode (cod 160) 128 = .ok (.iload 7, 2) := by decide +kernel
theorem d160_130 : decode (cod 160) 130 = .ok (.iload 6, 2) := by decide +kernel
theorem d160_132 : decode (cod 160) 132 = .ok (.if_icmp .ge 39, 3) := by decide +kernel
theorem d160_135 : decode (cod 160) 135 = .ok (.iconst 1, 1) := by decide +kernel
theorem d160_136 : decode (cod 160) 136 = .ok (.iload 7, 2) := by decide +kernel
theorem d160_138 : decode (cod 160) 138 = .ok (.ishl, 1) := by decide +kernel
theorem d160_139 : decode (cod 160) 139 = .ok (.iconst 1, 1) := by decide +kernel
theorem d160_140 : decode (cod 160) 140 = .ok (.isub, 1) := by decide +kernel
theorem d160_141 : decode (cod 160) 141 = .ok (.istore 8, 2) := by decide +kernel
theorem d160_143 : decode (cod 160) 143 = .ok (.iload 4, 2) := by decide +kernel
theorem d160_145 : decode (cod 160) 145 = .ok (.iload 8, 2) := by decide +kernel
theorem d160_147 : decode (cod 160) 147 = .ok (.iand, 1) := by decide +kernel
theorem d160_148 : decode (cod 160) 148 = .ok (.iload 4, 2) := by decide +kernel
theorem d160_150 : decode (cod 160) 150 = .ok (.iconst 1, 1) := by decide +kernel
theorem d160_151 : decode (cod 160) 151 = .ok (.ishr, 1) := by decide +kernel
theorem d160_152 : decode (cod 160) 152 = .ok (.iload 8, 2) := by decide +kernel
theorem d160_154 : decode (cod 160) 154 = .ok (.iconst (-1), 1) := by decide +kernel
theorem d160_155 : decode (cod 160) 155 = .ok (.ixor, 1) := by decide +kernel
theorem d160_156 : decode (cod 160) 156 = .ok (.iand, 1) := by decide +kernel
theorem d160_157 : decode (cod 160) 157 = .ok (.ior, 1) := by decide +kernel
theorem d160_158 : decode (cod 160) 158 = .ok (.iload 5, 2) := by decide +kernel
theorem d160_160 : decode (cod 160) 160 = .ok (.if_icmp .ne 5, 3) := by decide +kernel
theorem d160_163 : decode (cod 160) 163 = .ok (.iconst 2, 1) := by decide +kernel
theorem d160_164 : decode (cod 160) 164 = .ok (.ireturn, 1) := by decide +kernel
theorem d160_165 : decode (cod 160) 165 = .ok (.iinc 7 1, 3) := by decide +kernel
theorem d160_168 : decode (cod 160) 168 = .ok (.goto (-40), 3) := by decide +kernel
theorem d160_171 : decode (cod 160) 171 = .ok (.iconst 0, 1) := by decide +kernel
theorem d160_172 : decode (cod 160) 172 = .ok (.ireturn, 1) := by decide +kernel
theorem d161_0 : decode (cod 161) 0 = .ok (.aload_n 0, 1) := by decide +kernel
theorem d161_1 : decode (cod 161) 1 = .ok (.iload_n 1, 1) := by decide +kernel
theorem d161_2 : decode (cod 161) 2 = .ok (.invokevirtual 48, 3) := by decide +kernel
theorem d161_5 : decode (cod 161) 5 = .ok (.ifCond .eq 11, 3) := by decide +kernel
theorem d161_8 : decode (cod 161) 8 = .ok (.aload_n 0, 1) := by decide +kernel
theorem d161_9 : decode (cod 161) 9 = .ok (.iload_n 2, 1) := by decide +kernel
theorem d161_10 : decode (cod 161) 10 = .ok (.invokevirtual 48, 3) := by decide +kernel
theorem d161_13 : decode (cod 161) 13 = .ok (.ifCond .ne 5, 3) := by decide +kernel
theorem d161_16 : decode (cod 161) 16 = .ok (.iconst (-1), 1) := by decide +kernel
theorem d161_17 : decode (cod 161) 17 = .ok (.ireturn, 1) := by decide +kernel
theorem d161_18 : decode (cod 161) 18 = .ok (.iload_n 1, 1) := by decide +kernel
theorem d161_19 : decode (cod 161) 19 = .ok (.iload_n 2, 1) := by decide +kernel
theorem d161_20 : decode (cod 161) 20 = .ok (.if_icmp .ne 8, 3) := by decide +kernel
theorem d161_23 : decode (cod 161) 23 = .ok (.bipush (-2), 2) := by decide +kernel
theorem d161_25 : decode (cod 161) 25 = .ok (.goto 18, 3) := by decide +kernel
theorem d161_28 : decode (cod 161) 28 = .ok (.aload_n 0, 1) := by decide +kernel
theorem d161_29 : decode (cod 161) 29 = .ok (.iload_n 1, 1) := by decide +kernel
theorem d161_30 : decode (cod 161) 30 = .ok (.iconst 3, 1) := by decide +kernel
theorem d161_31 : decode (cod 161) 31 = .ok (.invokevirtual 51, 3) := by decide +kernel
theorem d161_34 : decode (cod 161) 34 = .ok (.aload_n 0, 1) := by decide +kernel
theorem d161_35 : decode (cod 161) 35 = .ok (.iload_n 2, 1) := by decide +kernel
theorem d161_36 : decode (cod 161) 36 = .ok (.iconst 3, 1) := by decide +kernel
theorem d161_37 : decode (cod 161) 37 = .ok (.invokevirtual 51, 3) := by decide +kernel
theorem d161_40 : decode (cod 161) 40 = .ok (.invokestatic 59, 3) := by decide +kernel
theorem d161_43 : decode (cod 161) 43 = .ok (.ireturn, 1) := by decide +kernel
theorem d162_0 : decode (cod 162) 0 = .ok (.iload_n 1, 1) := by decide +kernel
theorem d162_1 : decode (cod 162) 1 = .ok (.invokestatic 40, 3) := by decide +kernel
theorem d162_4 : decode (cod 162) 4 = .ok (.ifCond .ne 5, 3) := by decide +kernel
theorem d162_7 : decode (cod 162) 7 = .ok (.iconst (-1), 1) := by decide +kernel
theorem d162_8 : decode (cod 162) 8 = .ok (.ireturn, 1) := by decide +kernel
theorem d162_9 : decode (cod 162) 9 = .ok (.iconst 0, 1) := by decide +kernel
theorem d162_10 : decode (cod 162) 10 = .ok (.istore_n 2, 1) := by decide +kernel
theorem d162_11 : decode (cod 162) 11 = .ok (.iconst 0, 1) := by decide +kernel
theorem d162_12 : decode (cod 162) 12 = .ok (.istore_n 3, 1) := by decide +kernel
theorem d162_13 : decode (cod 162) 13 = .ok (.iload_n 3, 1) := by decide +kernel
theorem d162_14 : decode (cod 162) 14 = .ok (.aload_n 0, 1) := by decide +kernel
theorem d162_15 : decode (cod 162) 15 = .ok (.getfield 13, 3) := by decide +kernel
theorem d162_18 : decode (cod 162) 18 = .ok (.iconst 0, 1) := by decide +kernel
theorem d162_19 : decode (cod 162) 19 = .ok (.iaload, 1) := by decide +kernel
theorem d162_20 : decode (cod 162) 20 = .ok (.if_icmp .ge 68, 3) := by decide +kernel
theorem d162_23 : decode (cod 162) 23 = .ok (.iconst 0, 1) := by decide +kernel
theorem d162_24 : decode (cod 162) 24 = .ok (.istore 4, 2) := by decide +kernel
theorem d162_26 : decode (cod 162) 26 = .ok (.iload 4, 2) := by decide +kernel
theorem d162_28 : decode (cod 162) 28 = .ok (.iload_n 3, 1) := by decide +kernel
theorem d162_29 : decode (cod 162) 29 = .ok (.if_icmp .ge 53, 3) := by decide +kernel
theorem d162_32 : decode (cod 162) 32 = .ok (.iload_n 2, 1) := by decide +kernel
theorem d162_33 : decode (cod 162) 33 = .ok (.aload_n 0, 1) := by decide +kernel
theorem d162_34 : decode (cod 162) 34 = .ok (.iload_n 3, 1) := by decide +kernel
theorem d162_35 : decode (cod 162) 35 = .ok (.iconst 0, 1) := by decide +kernel
theorem d162_36 : decode (cod 162) 36 = .ok (.invokevirtual 51, 3) := by decide +kernel
theorem d162_39 : decode (cod 162) 39 = .ok (.iload_n 1, 1) := by decide +kernel
theorem d162_40 : decode (cod 162) 40 = .ok (.if_icmp .ne 33, 3) := by decide +kernel
theorem d162_43 : decode (cod 162) 43 = .ok (.aload_n 0, 1) := by decide +kernel
theorem d162_44 : decode (cod 162) 44 = .ok (.iload 4, 2) := by decide +kernel
theorem d162_46 : decode (cod 162) 46 = .ok (.iconst 0, 1) := by decide +kernel
theorem d162_47 : decode (cod 162) 47 = .ok (.invokevirtual 51, 3) := by decide +kernel
theorem d162_50 : decode (cod 162) 50 = .ok (.iload_n 1, 1) := by decide +kernel
theorem d162_51 : decode (cod 162) 51 = .ok (.if_icmp .ne 22, 3) := by decide +kernel
theorem d162_54 : decode (cod 162) 54 = .ok (.aload_n 0, 1) := by decide +kernel
theorem d162_55 : decode (cod 162) 55 = .ok (.iload_n 3, 1) := by decide +kernel
theorem d162_56 : decode (cod 162) 56 = .ok (.iconst 3, 1) := by decide +kernel
theorem d162_57 : decode (cod 162) 57 = .ok (.invokevirtual 51, 3) := by decide +kernel
theorem d162_60 : decode (cod 162) 60 = .ok (.aload_n 0, 1) := by decide +kernel
theorem d162_61 : decode (cod 162) 61 = .ok (.iload 4, 2) := by decide +kernel
theorem d162_63 : decode (cod 162) 63 = .ok (.iconst 3, 1) := by decide +kernel
theorem d162_64 : decode (cod 162) 64 = .ok (.invokevirtual 51, 3) := by decide +kernel
theorem d162_67 : decode (cod 162) 67 = .ok (.invokestatic 59, 3) := by decide +kernel
theorem d162_70 : decode (cod 162) 70 = .ok (.goto 4, 3) := by decide +kernel
theorem d162_73 : decode (cod 162) 73 = .ok (.iconst 0, 1) := by decide +kernel
theorem d162_74 : decode (cod 162) 74 = .ok (.iadd, 1) := by decide +kernel
theorem d162_75 : decode (cod 162) 75 = .ok (.istore_n 2, 1) := by decide +kernel
theorem d162_76 : decode (cod 162) 76 = .ok (.iinc 4 1, 3) := by decide +kernel
theorem d162_79 : decode (cod 162) 79 = .ok (.goto (-53), 3) := by decide +kernel
theorem d162_82 : decode (cod 162) 82 = .ok (.iinc 3 1, 3) := by decide +kernel
theorem d162_85 : decode (cod 162) 85 = .ok (.goto (-72), 3) := by decide +kernel
theorem d162_88 : decode (cod 162) 88 = .ok (.iload_n 2, 1) := by decide +kernel
theorem d162_89 : decode (cod 162) 89 = .ok (.ireturn, 1) := by decide +kernel
theorem d163_0 : decode (cod 163) 0 = .ok (.iload 4, 2) := by decide +kernel
theorem d163_2 : decode (cod 163) 2 = .ok (.aload_n 0, 1) := by decide +kernel
theorem d163_3 : decode (cod 163) 3 = .ok (.getfield 62, 3) := by decide +kernel
theorem d163_6 : decode (cod 163) 6 = .ok (.if_icmp .gt 21, 3) := by decide +kernel
theorem d163_9 : decode (cod 163) 9 = .ok (.iload 4, 2) := by decide +kernel
theorem d163_11 : decode (cod 163) 11 = .ok (.aload_n 0, 1) := by decide +kernel
theorem d163_12 : decode (cod 163) 12 = .ok (.getfield 62, 3) := by decide +kernel
theorem d163_15 : decode (cod 163) 15 = .ok (.if_icmp .ne 13, 3) := by decide +kernel
theorem d163_18 : decode (cod 163) 18 = .ok (.iload 5, 2) := by decide +kernel
theorem d163_20 : decode (cod 163) 20 = .ok (.aload_n 0, 1) := by decide +kernel
theorem d163_21 : decode (cod 163) 21 = .ok (.getfield 65, 3) := by decide +kernel
theorem d163_24 : decode (cod 163) 24 = .ok (.if_icmp .lt 4, 3) := by decide +kernel
theorem d163_27 : decode (cod 163) 27 = .ok (.return_, 1) := by decide +kernel
theorem d163_28 : decode (cod 163) 28 = .ok (.iload_n 1, 1) := by decide +kernel
theorem d163_29 : decode (cod 163) 29 = .ok (.iload_n 2, 1) := by decide +kernel
theorem d163_30 : decode (cod 163) 30 = .ok (.if_icmp .ne 45, 3) := by decide +kernel
theorem d163_33 : decode (cod 163) 33 = .ok (.aload_n 0, 1) := by decide +kernel
theorem d163_34 : decode (cod 163) 34 = .ok (.iload 4, 2) := by decide +kernel
theorem d163_36 : decode (cod 163) 36 = .ok (.putfield 62, 3) := by decide +kernel
theorem d163_39 : decode (cod 163) 39 = .ok (.aload_n 0, 1) := by decide +kernel
theorem d163_40 : decode (cod 163) 40 = .ok (.iload 5, 2) := by decide +kernel
theorem d163_42 : decode (cod 163) 42 = .ok (.putfield 65, 3) := by decide +kernel
theorem d163_45 : decode (cod 163) 45 = .ok (.iconst 0, 1) := by decide +kernel
theorem d163_46 : decode (cod 163) 46 = .ok (.istore 6, 2) := by decide +kernel
theorem d163_48 : decode (cod 163) 48 = .ok (.iload 6, 2) := by decide +kernel
theorem d163_50 : decode (cod 163) 50 = .ok (.iload_n 2, 1) := by decide +kernel
theorem d163_51 : decode (cod 163) 51 = .ok (.if_icmp .ge 23, 3) := by decide +kernel
theorem d163_54 : decode (cod 163) 54 = .ok (.aload_n 0, 1) := by decide +kernel
theorem d163_55 : decode (cod 163) 55 = .ok (.getfield 20, 3) := by decide +kernel
theorem d163_58 : decode (cod 163) 58 = .ok (.iload 6, 2) := by decide +kernel
theorem d163_60 : decode (cod 163) 60 = .ok (.aload_n 0, 1) := by decide +kernel
theorem d163_61 : decode (cod 163) 61 = .ok (.getfield 17, 3) := by decide +kernel
theorem d163_64 : decode (cod 163) 64 = .ok (.iload 6, 2) := by decide +kernel
theorem d163_66 : decode (cod 163) 66 = .ok (.iaload, 1) := by decide +kernel
theorem d163_67 : decode (cod 163) 67 = .ok (.iastore, 1) := by decide +kernel
theorem d163_68 : decode (cod 163) 68 = .ok (.iinc 6 1, 3) := by decide +kernel
theorem d163_71 : decode (cod 163) 71 = .ok (.goto (-23), 3) := by decide +kernel
theorem d163_74 : decode (cod 163) 74 = .ok (.return_, 1) := by decide +kernel
theorem d163_75 : decode (cod 163) 75 = .ok (.iconst 1, 1) := by decide +kernel
theorem d163_76 : decode (cod 163) 76 = .ok (.istore 6, 2) := by decide +kernel
theorem d163_78 : decode (cod 163) 78 = .ok (.iload 6, 2) := by decide +kernel
theorem d163_80 : decode (cod 163) 80 = .ok (.iload_n 3, 1) := by decide +kernel
theorem d163_81 : decode (cod 163) 81 = .ok (.if_icmp .gt 134, 3) := by decide +kernel
theorem d163_84 : decode (cod 163) 84 = .ok (.iconst 0, 1) := by decide +kernel
theorem d163_85 : decode (cod 163) 85 = .ok (.istore 7, 2) := by decide +kernel
theorem d163_87 : decode (cod 163) 87 = .ok (.iload 7, 2) := by decide +kernel
theorem d163_89 : decode (cod 163) 89 = .ok (.iconst 1, 1) := by decide +kernel
theorem d163_90 : decode (cod 163) 90 = .ok (.iload 6, 2) := by decide +kernel
theorem d163_92 : decode (cod 163) 92 = .ok (.ishl, 1) := by decide +kernel
theorem d163_93 : decode (cod 163) 93 = .ok (.if_icmp .ge 116, 3) := by decide +kernel
theorem d163_96 : decode (cod 163) 96 = .ok (.bipush 16, 2) := by decide +kernel
theorem d163_98 : decode (cod 163) 98 = .ok (.iload 6, 2) := by decide +kernel
theorem d163_100 : decode (cod 163) 100 = .ok (.imul, 1) := by decide +kernel
theorem d163_101 : decode (cod 163) 101 = .ok (.iload 7, 2) := by decide +kernel
theorem d163_103 : decode (cod 163) 103 = .ok (.iadd, 1) := by decide +kernel
theorem d163_104 : decode (cod 163) 104 = .ok (.istore 8, 2) := by decide +kernel
theorem d163_106 : decode (cod 163) 106 = .ok (.iconst 0, 1) := by decide +kernel
theorem d163_107 : decode (cod 163) 107 = .ok (.istore 9, 2) := by decide +kernel
theorem d163_109 : decode (cod 163) 109 = .ok (.iconst 1, 1) := by decide +kernel
theorem d163_110 : decode (cod 163) 110 = .ok (.istore 10, 2) := by decide +kernel
theorem d163_112 : decode (cod 163) 112 = .ok (.iconst 0, 1) := by decide +kernel
theorem d163_113 : decode (cod 163) 113 = .ok (.istore 11, 2) := by decide +kernel
theorem d163_115 : decode (cod 163) 115 = .ok (.iload 11, 2) := by decide +kernel
theorem d163_117 : decode (cod 163) 117 = .ok (.iload_n 1, 1) := by decide +kernel
theorem d163_118 : decode (cod 163) 118 = .ok (.if_icmp .ge 50, 3) := by decide +kernel
theorem d163_121 : decode (cod 163) 121 = .ok (.iload 10, 2) := by decide +kernel
theorem d163_123 : decode (cod 163) 123 = .ok (.ifCond .eq 19, 3) := by decide +kernel
theorem d163_126 : decode (cod 163) 126 = .ok (.aload_n 0, 1) := by decide +kernel
theorem d163_127 : decode (cod 163) 127 = .ok (.getfield 17, 3) := by decide +kernel
theorem d163_130 : decode (cod 163) 130 = .ok (.iload 11, 2) := by decide +kernel
theorem d163_132 : decode (cod 163) 132 = .ok (.iaload, 1) := by decide +kernel
theorem d163_133 : decode (cod 163) 133 = .ok (.iload 8, 2) := by decide +kernel
theorem d163_135 : decode (cod 163) 135 = .ok (.if_icmp .eq 7, 3) := by decide +kernel
theorem d163_138 : decode (cod 163) 138 = .ok (.iconst 1, 1) := by decide +kernel
theorem d163_139 : decode (cod 163) 139 = .ok (.goto 4, 3) := by decide +kernel
theorem d163_142 : decode (cod 163) 142 = .ok (.iconst 0, 1) := by decide +kernel
theorem d163_143 : decode (cod 163) 143 = .ok (.istore 10, 2) := by decide +kernel
theorem d163_145 : decode (cod 163) 145 = .ok (.iload 9, 2) := by decide +kernel
theorem d163_147 : decode (cod 163) 147 = .ok (.aload_n 0, 1) := by decide +kernel
theorem d163_148 : decode (cod 163) 148 = .ok (.getfield 17, 3) := by decide +kernel
theorem d163_151 : decode (cod 163) 151 = .ok (.iload 11, 2) := by decide +kernel
theorem d163_153 : decode (cod 163) 153 = .ok (.iaload, 1) := by decide +kernel
theorem d163_154 : decode (cod 163) 154 = .ok (.iload 8, 2) := by decide +kernel
theorem d163_156 : decode (cod 163) 156 = .ok (.invokestatic 59, 3) := by decide +kernel
theorem d163_159 : decode (cod 163) 159 = .ok (.iadd, 1) := by decide +kernel
theorem d163_160 : decode (cod 163) 160 = .ok (.istore 9, 2) := by decide +kernel
theorem d163_162 : decode (cod 163) 162 = .ok (.iinc 11 1, 3) := by decide +kernel
theorem d163_165 : decode (cod 163) 165 = .ok (.goto (-50), 3) := by decide +kernel
theorem d163_168 : decode (cod 163) 168 = .ok (.iload 10, 2) := by decide +kernel
theorem d163_170 : decode (cod 163) 170 = .ok (.ifCond .ne 6, 3) := by decide +kernel
theorem d163_173 : decode (cod 163) 173 = .ok (.goto 30, 3) := by decide +kernel
theorem d163_176 : decode (cod 163) 176 = .ok (.aload_n 0, 1) := by decide +kernel
theorem d163_177 : decode (cod 163) 177 = .ok (.getfield 17, 3) := by decide +kernel
theorem d163_180 : decode (cod 163) 180 = .ok (.iload_n 1, 1) := by decide +kernel
theorem d163_181 : decode (cod 163) 181 = .ok (.iload 8, 2) := by decide +kernel
theorem d163_183 : decode (cod 163) 183 = .ok (.iastore, 1) := by decide +kernel
theorem d163_184 : decode (cod 163) 184 = .ok (.aload_n 0, 1) := by decide +kernel
theorem d163_185 : decode (cod 163) 185 = .ok (.iload_n 1, 1) := by decide +kernel
theorem d163_186 : decode (cod 163) 186 = .ok (.iconst 1, 1) := by decide +kernel
theorem d163_187 : decode (cod 163) 187 = .ok (.iadd, 1) := by decide +kernel
theorem d163_188 : decode (cod 163) 188 = .ok (.iload_n 2, 1) := by decide +kernel
theorem d163_189 : decode (cod 163) 189 = .ok (.iload_n 3, 1) := by decide +kernel
theorem d163_190 : decode (cod 163) 190 = .ok (.iload 4, 2) := by decide +kernel
theorem d163_192 : decode (cod 163) 192 = .ok (.iload 9, 2) := by decide +kernel
theorem d163_194 : decode (cod 163) 194 = .ok (.iadd, 1) := by decide +kernel
theorem d163_195 : decode (cod 163) 195 = .ok (.iload 5, 2) := by decide +kernel
theorem d163_197 : decode (cod 163) 197 = .ok (.iload 6, 2) := by decide +kernel
theorem d163_199 : decode (cod 163) 199 = .ok (.iadd, 1) := by decide +kernel
theorem d163_200 : decode (cod 163) 200 = .ok (.invokevirtual 68, 3) := by decide +kernel
theorem d163_203 : decode (cod 163) 203 = .ok (.iinc 7 1, 3) := by decide +kernel
theorem d163_206 : decode (cod 163) 206 = .ok (.goto (-119), 3) := by decide +kernel
theorem d163_209 : decode (cod 163) 209 = .ok (.iinc 6 1, 3) := by decide +kernel
theorem d163_212 : decode (cod 163) 212 = .ok (.goto (-134), 3) := by decide +kernel
theorem d163_215 : decode (cod 163) 215 = .ok (.return_, 1) := by decide +kernel
theorem d164_0 : decode (cod 164) 0 = .ok (.iconst 0, 1) := by decide +kernel
theorem d164_1 : decode (cod 164) 1 = .ok (.istore 4, 2) := by decide +kernel
theorem d164_3 : decode (cod 164) 3 = .ok (.iconst 0, 1) := by decide +kernel
theorem d164_4 : decode (cod 164) 4 = .ok (.istore 5, 2) := by decide +kernel
theorem d164_6 : decode (cod 164) 6 = .ok (.iload 5, 2) := by decide +kernel
theorem d164_8 : decode (cod 164) 8 = .ok (.aload_n 0, 1) := by decide +kernel
theorem d164_9 : decode (cod 164) 9 = .ok (.getfield 13, 3) := by decide +kernel
theorem d164_12 : decode (cod 164) 12 = .ok (.iconst 0, 1) := by decide +kernel
theorem d164_13 : decode (cod 164) 13 = .ok (.iaload, 1) := by decide +kernel
theorem d164_14 : decode (cod 164) 14 = .ok (.if_icmp .ge 43, 3) := by decide +kernel
theorem d164_17 : decode (cod 164) 17 = .ok (.iload 4, 2) := by decide +kernel
theorem d164_19 : decode (cod 164) 19 = .ok (.iload_n 1, 1) := by decide +kernel
theorem d164_20 : decode (cod 164) 20 = .ok (.invokestatic 40, 3) := by decide +kernel
theorem d164_23 : decode (cod 164) 23 = .ok (.ifCond .eq 24, 3) := by decide +kernel
theorem d164_26 : decode (cod 164) 26 = .ok (.aload_n 0, 1) := by decide +kernel
theorem d164_27 : decode (cod 164) 27 = .ok (.iload 5, 2) := by decide +kernel
theorem d164_29 : decode (cod 164) 29 = .ok (.iconst 0, 1) := by decide +kernel
theorem d164_30 : decode (cod 164) 30 = .ok (.invokevirtual 51, 3) := by decide +kernel
theorem d164_33 : decode (cod 164) 33 = .ok (.iload_n 1, 1) := by decide +kernel
theorem d164_34 : decode (cod 164) 34 = .ok (.if_icmp .ne 13, 3) := by decide +kernel
theorem d164_37 : decode (cod 164) 37 = .ok (.iload 4, 2) := by decide +kernel
theorem d164_39 : decode (cod 164) 39 = .ok (.iconst 5, 1) := by decide +kernel
theorem d164_40 : decode (cod 164) 40 = .ok (.if_icmp .ge 7, 3) := by decide +kernel
theorem d164_43 : decode (cod 164) 43 = .ok (.iconst 1, 1) := by decide +kernel
theorem d164_44 : decode (cod 164) 44 = .ok (.goto 4, 3) := by decide +kernel
theorem d164_47 : decode (cod 164) 47 = .ok (.iconst 0, 1) := by decide +kernel
theorem d164_48 : decode (cod 164) 48 = .ok (.iadd, 1) := by decide +kernel
theorem d164_49 : decode (cod 164) 49 = .ok (.istore 4, 2) := by decide +kernel
theorem d164_51 : decode (cod 164) 51 = .ok (.iinc 5 1, 3) := by decide +kernel
theorem d164_54 : decode (cod 164) 54 = .ok (.goto (-48), 3) := by decide +kernel
theorem d164_57 : decode (cod 164) 57 = .ok (.iload_n 1, 1) := by decide +kernel
theorem d164_58 : decode (cod 164) 58 = .ok (.invokestatic 40, 3) := by decide +kernel
theorem d164_61 : decode (cod 164) 61 = .ok (.ifCond .eq 15, 3) := by decide +kernel
theorem d164_64 : decode (cod 164) 64 = .ok (.iload_n 3, 1) := by decide +kernel
theorem d164_65 : decode (cod 164) 65 = .ok (.iconst (-1), 1) := by decide +kernel
theorem d164_66 : decode (cod 164) 66 = .ok (.iload 4, 2) := by decide +kernel
theorem d164_68 : decode (cod 164) 68 = .ok (.iconst 1, 1) := by decide +kernel
theorem d164_69 : decode (cod 164) 69 = .ok (.isub, 1) := by decide +kernel
theorem d164_70 : decode (cod 164) 70 = .ok (.invokestatic 36, 3) := by decide +kernel
theorem d164_73 : decode (cod 164) 73 = .ok (.ifCond .ne 5, 3) := by decide +kernel
theorem d164_76 : decode (cod 164) 76 = .ok (.iconst (-1), 1) := by decide +kernel
theorem d164_77 : decode (cod 164) 77 = .ok (.ireturn, 1) := by decide +kernel
theorem d164_78 : decode (cod 164) 78 = .ok (.iload_n 2, 1) := by decide +kernel
theorem d164_79 : decode (cod 164) 79 = .ok (.iconst 1, 1) := by decide +kernel
theorem d164_80 : decode (cod 164) 80 = .ok (.iconst 3, 1) := by decide +kernel
theorem d164_81 : decode (cod 164) 81 = .ok (.invokestatic 36, 3) := by decide +kernel
theorem d164_84 : decode (cod 164) 84 = .ok (.ifCond .ne 6, 3) := by decide +kernel
theorem d164_87 : decode (cod 164) 87 = .ok (.bipush (-2), 2) := by decide +kernel
theorem d164_89 : decode (cod 164) 89 = .ok (.ireturn, 1) := by decide +kernel
theorem d164_90 : decode (cod 164) 90 = .ok (.iload 4, 2) := by decide +kernel
theorem d164_92 : decode (cod 164) 92 = .ok (.iconst 2, 1) := by decide +kernel
theorem d164_93 : decode (cod 164) 93 = .ok (.iload_n 2, 1) := by decide +kernel
theorem d164_94 : decode (cod 164) 94 = .ok (.ishl, 1) := by decide +kernel
theorem d164_95 : decode (cod 164) 95 = .ok (.iconst 2, 1) := by decide +kernel
theorem d164_96 : decode (cod 164) 96 = .ok (.isub, 1) := by decide +kernel
theorem d164_97 : decode (cod 164) 97 = .ok (.if_icmp .le 6, 3) := by decide +kernel
theorem d164_100 : decode (cod 164) 100 = .ok (.bipush (-5), 2) := by decide +kernel
theorem d164_102 : decode (cod 164) 102 = .ok (.ireturn, 1) := by decide +kernel
theorem d164_103 : decode (cod 164) 103 = .ok (.aload_n 0, 1) := by decide +kernel
theorem d164_104 : decode (cod 164) 104 = .ok (.sipush 1000, 3) := by decide +kernel
theorem d164_107 : decode (cod 164) 107 = .ok (.putfield 62, 3) := by decide +kernel
theorem d164_110 : decode (cod 164) 110 = .ok (.aload_n 0, 1) := by decide +kernel
theorem d164_111 : decode (cod 164) 111 = .ok (.sipush 1000, 3) := by decide +kernel
theorem d164_114 : decode (cod 164) 114 = .ok (.putfield 65, 3) := by decide +kernel
theorem d164_117 : decode (cod 164) 117 = .ok (.aload_n 0, 1) := by decide +kernel
theorem d164_118 : decode (cod 164) 118 = .ok (.iconst 0, 1) := by decide +kernel
theorem d164_119 : decode (cod 164) 119 = .ok (.iload 4, 2) := by decide +kernel
theorem d164_121 : decode (cod 164) 121 = .ok (.iload_n 2, 1) := by decide +kernel
theorem d164_122 : decode (cod 164) 122 = .ok (.iconst 0, 1) := by decide +kernel
theorem d164_123 : decode (cod 164) 123 = .ok (.iconst 0, 1) := by decide +kernel
theorem d164_124 : decode (cod 164) 124 = .ok (.invokevirtual 68, 3) := by decide +kernel
theorem d164_127 : decode (cod 164) 127 = .ok (.iload_n 3, 1) := by decide +kernel
theorem d164_128 : decode (cod 164) 128 = .ok (.iconst (-1), 1) := by decide +kernel
theorem d164_129 : decode (cod 164) 129 = .ok (.if_icmp .ne 10, 3) := by decide +kernel
theorem d164_132 : decode (cod 164) 132 = .ok (.aload_n 0, 1) := by decide +kernel
theorem d164_133 : decode (cod 164) 133 = .ok (.getfield 62, 3) := by decide +kernel
theorem d164_136 : decode (cod 164) 136 = .ok (.goto 9, 3) := by decide +kernel
theorem d164_139 : decode (cod 164) 139 = .ok (.aload_n 0, 1) := by decide +kernel
theorem d164_140 : decode (cod 164) 140 = .ok (.getfield 20, 3) := by decide +kernel
theorem d164_143 : decode (cod 164) 143 = .ok (.iload_n 3, 1) := by decide +kernel
theorem d164_144 : decode (cod 164) 144 = .ok (.iaload, 1) := by decide +kernel
theorem d164_145 : decode (cod 164) 145 = .ok (.ireturn, 1) := by decide +kernel
theorem d165_0 : decode (cod 165) 0 = .ok (.aload_n 0, 1) := by decide +kernel
theorem d165_1 : decode (cod 165) 1 = .ok (.getfield 72, 3) := by decide +kernel
theorem d165_4 : decode (cod 165) 4 = .ok (.aload_n 0, 1) := by decide +kernel
theorem d165_5 : decode (cod 165) 5 = .ok (.getfield 75, 3) := by decide +kernel
theorem d165_8 : decode (cod 165) 8 = .ok (.if_icmp .ge 20, 3) := by decide +kernel
theorem d165_11 : decode (cod 165) 11 = .ok (.aload_n 0, 1) := by decide +kernel
theorem d165_12 : decode (cod 165) 12 = .ok (.getfield 13, 3) := by decide +kernel
theorem d165_15 : decode (cod 165) 15 = .ok (.aload_n 0, 1) := by decide +kernel
theorem d165_16 : decode (cod 165) 16 = .ok (.getfield 78, 3) := by decide +kernel
theorem d165_19 : decode (cod 165) 19 = .ok (.aload_n 0, 1) := by decide +kernel
theorem d165_20 : decode (cod 165) 20 = .ok (.getfield 72, 3) := by decide +kernel
theorem d165_23 : decode (cod 165) 23 = .ok (.iadd, 1) := by decide +kernel
theorem d165_24 : decode (cod 165) 24 = .ok (.iaload, 1) := by decide +kernel
theorem d165_25 : decode (cod 165) 25 = .ok (.goto 4, 3) := by decide +kernel
theorem d165_28 : decode (cod 165) 28 = .ok (.iconst (-1), 1) := by decide +kernel
theorem d165_29 : decode (cod 165) 29 = .ok (.ireturn, 1) := by decide +kernel
theorem d166_0 : decode (cod 166) 0 = .ok (.aload_n 0, 1) := by decide +kernel
theorem d166_1 : decode (cod 166) 1 = .ok (.getfield 81, 3) := by decide +kernel
theorem d166_4 : decode (cod 166) 4 = .ok (.ifCond .eq 4, 3) := by decide +kernel
theorem d166_7 : decode (cod 166) 7 = .ok (.return_, 1) := by decide +kernel
theorem d166_8 : decode (cod 166) 8 = .ok (.aload_n 0, 1) := by decide +kernel
theorem d166_9 : decode (cod 166) 9 = .ok (.invokevirtual 85, 3) := by decide +kernel
theorem d166_12 : decode (cod 166) 12 = .ok (.iload_n 1, 1) := by decide +kernel
theorem d166_13 : decode (cod 166) 13 = .ok (.if_icmp .ne 16, 3) := by decide +kernel
theorem d166_16 : decode (cod 166) 16 = .ok (.aload_n 0, 1) := by decide +kernel
theorem d166_17 : decode (cod 166) 17 = .ok (.dup, 1) := by decide +kernel
theorem d166_18 : decode (cod 166) 18 = .ok (.getfield 72, 3) := by decide +kernel
theorem d166_21 : decode (cod 166) 21 = .ok (.iconst 1, 1) := by decide +kernel
theorem d166_22 : decode (cod 166) 22 = .ok (.iadd, 1) := by decide +kernel
theorem d166_23 : decode (cod 166) 23 = .ok (.putfield 72, 3) := by decide +kernel
theorem d166_26 : decode (cod 166) 26 = .ok (.goto 8, 3) := by decide +kernel
theorem d166_29 : decode (cod 166) 29 = .ok (.aload_n 0, 1) := by decide +kernel
theorem d166_30 : decode (cod 166) 30 = .ok (.iconst 1, 1) := by decide +kernel
theorem d166_31 : decode (cod 166) 31 = .ok (.putfield 81, 3) := by decide +kernel
theorem d166_34 : decode (cod 166) 34 = .ok (.return_, 1) := by decide +kernel
theorem d167_0 : decode (cod 167) 0 = .ok (.aload_n 0, 1) := by decide +kernel
theorem d167_1 : decode (cod 167) 1 = .ok (.iload_n 1, 1) := by decide +kernel
theorem d167_2 : decode (cod 167) 2 = .ok (.invokevirtual 88, 3) := by decide +kernel
theorem d167_5 : decode (cod 167) 5 = .ok (.aload_n 0, 1) := by decide +kernel
theorem d167_6 : decode (cod 167) 6 = .ok (.iload_n 2, 1) := by decide +kernel
theorem d167_7 : decode (cod 167) 7 = .ok (.invokevirtual 88, 3) := by decide +kernel
theorem d167_10 : decode (cod 167) 10 = .ok (.aload_n 0, 1) := by decide +kernel
theorem d167_11 : decode (cod 167) 11 = .ok (.iload_n 3, 1) := by decide +kernel
theorem d167_12 : decode (cod 167) 12 = .ok (.invokevirtual 88, 3) := by decide +kernel
theorem d167_15 : decode (cod 167) 15 = .ok (.aload_n 0, 1) := by decide +kernel
theorem d167_16 : decode (cod 167) 16 = .ok (.iload 4, 2) := by decide +kernel
theorem d167_18 : decode (cod 167) 18 = .ok (.invokevirtual 88, 3) := by decide +kernel
theorem d167_21 : decode (cod 167) 21 = .ok (.iload 5, 2) := by decide +kernel
theorem d167_23 : decode (cod 167) 23 = .ok (.ifCond .eq 9, 3) := by decide +kernel
theorem d167_26 : decode (cod 167) 26 = .ok (.aload_n 0, 1) := by decide +kernel
theorem d167_27 : decode (cod 167) 27 = .ok (.iload 5, 2) := by decide +kernel
theorem d167_29 : decode (cod 167) 29 = .ok (.invokevirtual 88, 3) := by decide +kernel
theorem d167_32 : decode (cod 167) 32 = .ok (.return_, 1) := by decide +kernel
theorem d168_0 : decode (cod 168) 0 = .ok (.aload_n 0, 1) := by decide +kernel
theorem d168_1 : decode (cod 168) 1 = .ok (.invokevirtual 85, 3) := by decide +kernel
theorem d168_4 : decode (cod 168) 4 = .ok (.lookupswitch 152 #[(99, 121), (100, 76), (102, 60), (108, 106), (116, 137), (119, 91)], 60) := by decide +kernel
theorem d168_64 : decode (cod 168) 64 = .ok (.aload_n 0, 1) := by decide +kernel
theorem d168_65 : decode (cod 168) 65 = .ok (.bipush 102, 2) := by decide +kernel
theorem d168_67 : decode (cod 168) 67 = .ok (.bipush 105, 2) := by decide +kernel
theorem d168_69 : decode (cod 168) 69 = .ok (.bipush 114, 2) := by decide +kernel
theorem d168_71 : decode (cod 168) 71 = .ok (.bipush 115, 2) := by decide +kernel
theorem d168_73 : decode (cod 168) 73 = .ok (.bipush 116, 2) := by decide +kernel
theorem d168_75 : decode (cod 168) 75 = .ok (.invokevirtual 92, 3) := by decide +kernel
theorem d168_78 : decode (cod 168) 78 = .ok (.iconst 0, 1) := by decide +kernel
theorem d168_79 : decode (cod 168) 79 = .ok (.ireturn, 1) := by decide +kernel
theorem d168_80 : decode (cod 168) 80 = .ok (.aload_n 0, 1) := by decide +kernel
theorem d168_81 : decode (cod 168) 81 = .ok (.bipush 100, 2) := by decide +kernel
theorem d168_83 : decode (cod 168) 83 = .ok (.bipush 117, 2) := by decide +kernel
theorem d168_85 : decode (cod 168) 85 = .ok (.bipush 101, 2) := by decide +kernel
theorem d168_87 : decode (cod 168) 87 = .ok (.bipush 115, 2) := by decide +kernel
theorem d168_89 : decode (cod 168) 89 = .ok (.iconst 0, 1) := by decide +kernel
theorem d168_90 : decode (cod 168) 90 = .ok (.invokevirtual 92, 3) := by decide +kernel
theorem d168_93 : decode (cod 168) 93 = .ok (.iconst 1, 1) := by decide +kernel
theorem d168_94 : decode (cod 168) 94 = .ok (.ireturn, 1) := by decide +kernel
theorem d168_95 : decode (cod 168) 95 = .ok (.aload_n 0, 1) := by decide +kernel
theorem d168_96 : decode (cod 168) 96 = .ok (.bipush 119, 2) := by decide +kernel
theorem d168_98 : decode (cod 168) 98 = .ok (.bipush 111, 2) := by decide +kernel
theorem d168_100 : decode (cod 168) 100 = .ok (.bipush 114, 2) := by decide +kernel
theorem d168_102 : decode (cod 168) 102 = .ok (.bipush 107, 2) := by decide +kernel
theorem d168_104 : decode (cod 168) 104 = .ok (.iconst 0, 1) := by decide +kernel
theorem d168_105 : decode (cod 168) 105 = .ok (.invokevirtual 92, 3) := by decide +kernel
theorem d168_108 : decode (cod 168) 108 = .ok (.iconst 2, 1) := by decide +kernel
theorem d168_109 : decode (cod 168) 109 = .ok (.ireturn, 1) := by decide +kernel
theorem d168_110 : decode (cod 168) 110 = .ok (.aload_n 0, 1) := by decide +kernel
theorem d168_111 : decode (cod 168) 111 = .ok (.bipush 108, 2) := by decide +kernel
theorem d168_113 : decode (cod 168) 113 = .ok (.bipush 111, 2) := by decide +kernel
theorem d168_115 : decode (cod 168) 115 = .ok (.bipush 110, 2) := by decide +kernel
theorem d168_117 : decode (cod 168) 117 = .ok (.bipush 103, 2) := by decide +kernel
theorem d168_119 : decode (cod 168) 119 = .ok (.iconst 0, 1) := by decide +kernel
theorem d168_120 : decode (cod 168) 120 = .ok (.invokevirtual 92, 3) := by decide +kernel
theorem d168_123 : decode (cod 168) 123 = .ok (.iconst 3, 1) := by decide +kernel
theorem d168_124 : decode (cod 168) 124 = .ok (.ireturn, 1) := by decide +kernel
theorem d168_125 : decode (cod 168) 125 = .ok (.aload_n 0, 1) := by decide +kernel
theorem d168_126 : decode (cod 168) 126 = .ok (.bipush 99, 2) := by decide +kernel
theorem d168_128 : decode (cod 168) 128 = .ok (.bipush 111, 2) := by decide +kernel
theorem d168_130 : decode (cod 168) 130 = .ok (.bipush 114, 2) := by decide +kernel
theorem d168_132 : decode (cod 168) 132 = .ok (.bipush 100, 2) := by decide +kernel
theorem d168_134 : decode (cod 168) 134 = .ok (.bipush 115, 2) := by decide +kernel
theorem d168_136 : decode (cod 168) 136 = .ok (.invokevirtual 92, 3) := by decide +kernel
theorem d168_139 : decode (cod 168) 139 = .ok (.iconst 4, 1) := by decide +kernel
theorem d168_140 : decode (cod 168) 140 = .ok (.ireturn, 1) := by decide +kernel
theorem d168_141 : decode (cod 168) 141 = .ok (.aload_n 0, 1) := by decide +kernel
theorem d168_142 : decode (cod 168) 142 = .ok (.bipush 116, 2) := by decide +kernel
theorem d168_144 : decode (cod 168) 144 = .ok (.bipush 101, 2) := by decide +kernel
theorem d168_146 : decode (cod 168) 146 = .ok (.bipush 108, 2) := by decide +kernel
theorem d168_148 : decode (cod 168) 148 = .ok (.bipush 108, 2) := by decide +kernel
theorem d168_150 : decode (cod 168) 150 = .ok (.iconst 0, 1) := by decide +kernel
theorem d168_151 : decode (cod 168) 151 = .ok (.invokevirtual 92, 3) := by decide +kernel
theorem d168_154 : decode (cod 168) 154 = .ok (.iconst 5, 1) := by decide +kernel
theorem d168_155 : decode (cod 168) 155 = .ok (.ireturn, 1) := by decide +kernel
theorem d168_156 : decode (cod 168) 156 = .ok (.aload_n 0, 1) := by decide +kernel
theorem d168_157 : decode (cod 168) 157 = .ok (.bipush 110, 2) := by decide +kernel
theorem d168_159 : decode (cod 168) 159 = .ok (.bipush 101, 2) := by decide +kernel
theorem d168_161 : decode (cod 168) 161 = .ok (.bipush 97, 2) := by decide +kernel
theorem d168_163 : decode (cod 168) 163 = .ok (.bipush 114, 2) := by decide +kernel
theorem d168_165 : decode (cod 168) 165 = .ok (.iconst 0, 1) := by decide +kernel
theorem d168_166 : decode (cod 168) 166 = .ok (.invokevirtual 92, 3) := by decide +kernel
theorem d168_169 : decode (cod 168) 169 = .ok (.bipush 6, 2) := by decide +kernel
theorem d168_171 : decode (cod 168) 171 = .ok (.ireturn, 1) := by decide +kernel
theorem d169_0 : decode (cod 169) 0 = .ok (.iload_n 0, 1) := by decide +kernel
theorem d169_1 : decode (cod 169) 1 = .ok (.bipush 48, 2) := by decide +kernel
theorem d169_3 : decode (cod 169) 3 = .ok (.bipush 57, 2) := by decide +kernel
theorem d169_5 : decode (cod 169) 5 = .ok (.invokestatic 36, 3) := by decide +kernel
theorem d169_8 : decode (cod 169) 8 = .ok (.ireturn, 1) := by decide +kernel
theorem d170_0 : decode (cod 170) 0 = .ok (.aload_n 0, 1) := by decide +kernel
theorem d170_1 : decode (cod 170) 1 = .ok (.getfield 81, 3) := by decide +kernel
theorem d170_4 : decode (cod 170) 4 = .ok (.ifCond .eq 5, 3) := by decide +kernel
theorem d170_7 : decode (cod 170) 7 = .ok (.iconst 0, 1) := by decide +kernel
theorem d170_8 : decode (cod 170) 8 = .ok (.ireturn, 1) := by decide +kernel
theorem d170_9 : decode (cod 170) 9 = .ok (.aload_n 0, 1) := by decide +kernel
theorem d170_10 : decode (cod 170) 10 = .ok (.invokevirtual 85, 3) := by decide +kernel
theorem d170_13 : decode (cod 170) 13 = .ok (.invokestatic 95, 3) := by decide +kernel
theorem d170_16 : decode (cod 170) 16 = .ok (.ifCond .ne 10, 3) := by decide +kernel
theorem d170_19 : decode (cod 170) 19 = .ok (.aload_n 0, 1) := by decide +kernel
theorem d170_20 : decode (cod 170) 20 = .ok (.iconst 1, 1) := by decide +kernel
theorem d170_21 : decode (cod 170) 21 = .ok (.putfield 81, 3) := by decide +kernel
theorem d170_24 : decode (cod 170) 24 = .ok (.iconst 0, 1) := by decide +kernel
theorem d170_25 : decode (cod 170) 25 = .ok (.ireturn, 1) := by decide +kernel
theorem d170_26 : decode (cod 170) 26 = .ok (.aload_n 0, 1) := by decide +kernel
theorem d170_27 : decode (cod 170) 27 = .ok (.invokevirtual 85, 3) := by decide +kernel
theorem d170_30 : decode (cod 170) 30 = .ok (.bipush 48, 2) := by decide +kernel
theorem d170_32 : decode (cod 170) 32 = .ok (.isub, 1) := by decide +kernel
theorem d170_33 : decode (cod 170) 33 = .ok (.istore_n 1, 1) := by decide +kernel
theorem d170_34 : decode (cod 170) 34 = .ok (.aload_n 0, 1) := by decide +kernel
theorem d170_35 : decode (cod 170) 35 = .ok (.dup, 1) := by decide +kernel
theorem d170_36 : decode (cod 170) 36 = .ok (.getfield 72, 3) := by decide +kernel
theorem d170_39 : decode (cod 170) 39 = .ok (.iconst 1, 1) := by decide +kernel
theorem d170_40 : decode (cod 170) 40 = .ok (.iadd, 1) := by decide +kernel
theorem d170_41 : decode (cod 170) 41 = .ok (.putfield 72, 3) := by decide +kernel
theorem d170_44 : decode (cod 170) 44 = .ok (.iconst 1, 1) := by decide +kernel
theorem d170_45 : decode (cod 170) 45 = .ok (.istore_n 2, 1) := by decide +kernel
theorem d170_46 : decode (cod 170) 46 = .ok (.iload_n 2, 1) := by decide +kernel
theorem d170_47 : decode (cod 170) 47 = .ok (.iconst 3, 1) := by decide +kernel
theorem d170_48 : decode (cod 170) 48 = .ok (.if_icmp .ge 46, 3) := by decide +kernel
theorem d170_51 : decode (cod 170) 51 = .ok (.iload_n 1, 1) := by decide +kernel
theorem d170_52 : decode (cod 170) 52 = .ok (.ifCond .le 42, 3) := by decide +kernel
theorem d170_55 : decode (cod 170) 55 = .ok (.aload_n 0, 1) := by decide +kernel
theorem d170_56 : decode (cod 170) 56 = .ok (.invokevirtual 85, 3) := by decide +kernel
theorem d170_59 : decode (cod 170) 59 = .ok (.invokestatic 95, 3) := by decide +kernel
theorem d170_62 : decode (cod 170) 62 = .ok (.ifCond .eq 32, 3) := by decide +kernel
theorem d170_65 : decode (cod 170) 65 = .ok (.bipush 10, 2) := by decide +kernel
theorem d170_67 : decode (cod 170) 67 = .ok (.iload_n 1, 1) := by decide +kernel
theorem d170_68 : decode (cod 170) 68 = .ok (.imul, 1) := by decide +kernel
theorem d170_69 : decode (cod 170) 69 = .ok (.aload_n 0, 1) := by decide +kernel
theorem d170_70 : decode (cod 170) 70 = .ok (.invokevirtual 85, 3) := by decide +kernel
theorem d170_73 : decode (cod 170) 73 = .ok (.iadd, 1) := by decide +kernel
theorem d170_74 : decode (cod 170) 74 = .ok (.bipush 48, 2) := by decide +kernel
theorem d170_76 : decode (cod 170) 76 = .ok (.isub, 1) := by decide +kernel
theorem d170_77 : decode (cod 170) 77 = .ok (.istore_n 1, 1) := by decide +kernel
theorem d170_78 : decode (cod 170) 78 = .ok (.aload_n 0, 1) := by decide +kernel
theorem d170_79 : decode (cod 170) 79 = .ok (.dup, 1) := by decide +kernel
theorem d170_80 : decode (cod 170) 80 = .ok (.getfield 72, 3) := by decide +kernel
theorem d170_83 : decode (cod 170) 83 = .ok (.iconst 1, 1) := by decide +kernel
theorem d170_84 : decode (cod 170) 84 = .ok (.iadd, 1) := by decide +kernel
theorem d170_85 : decode (cod 170) 85 = .ok (.putfield 72, 3) := by decide +kernel
theorem d170_88 : decode (cod 170) 88 = .ok (.iinc 2 1, 3) := by decide +kernel
theorem d170_91 : decode (cod 170) 91 = .ok (.goto (-45), 3) := by decide +kernel
theorem d170_94 : decode (cod 170) 94 = .ok (.iload_n 1, 1) := by decide +kernel
theorem d170_95 : decode (cod 170) 95 = .ok (.ireturn, 1) := by decide +kernel
theorem d171_0 : decode (cod 171) 0 = .ok (.aload_n 0, 1) := by decide +kernel
theorem d171_1 : decode (cod 171) 1 = .ok (.getfield 98, 3) := by decide +kernel
theorem d171_4 : decode (cod 171) 4 = .ok (.iconst 5, 1) := by decide +kernel
theorem d171_5 : decode (cod 171) 5 = .ok (.if_icmp .ne 8, 3) := by decide +kernel
theorem d171_8 : decode (cod 171) 8 = .ok (.aload_n 0, 1) := by decide +kernel
theorem d171_9 : decode (cod 171) 9 = .ok (.iconst 1, 1) := by decide +kernel
theorem d171_10 : decode (cod 171) 10 = .ok (.putfield 81, 3) := by decide +kernel
theorem d171_13 : decode (cod 171) 13 = .ok (.aload_n 0, 1) := by decide +kernel
theorem d171_14 : decode (cod 171) 14 = .ok (.getfield 81, 3) := by decide +kernel
theorem d171_17 : decode (cod 171) 17 = .ok (.ifCond .eq 4, 3) := by decide +kernel
theorem d171_20 : decode (cod 171) 20 = .ok (.return_, 1) := by decide +kernel
theorem d171_21 : decode (cod 171) 21 = .ok (.aload_n 0, 1) := by decide +kernel
theorem d171_22 : decode (cod 171) 22 = .ok (.dup, 1) := by decide +kernel
theorem d171_23 : decode (cod 171) 23 = .ok (.getfield 98, 3) := by decide +kernel
theorem d171_26 : decode (cod 171) 26 = .ok (.iconst 1, 1) := by decide +kernel
theorem d171_27 : decode (cod 171) 27 = .ok (.iadd, 1) := by decide +kernel
theorem d171_28 : decode (cod 171) 28 = .ok (.putfield 98, 3) := by decide +kernel
theorem d171_31 : decode (cod 171) 31 = .ok (.aload_n 0, 1) := by decide +kernel
theorem d171_32 : decode (cod 171) 32 = .ok (.dup, 1) := by decide +kernel
theorem d171_33 : decode (cod 171) 33 = .ok (.getfield 72, 3) := by decide +kernel
theorem d171_36 : decode (cod 171) 36 = .ok (.iconst 1, 1) := by decide +kernel
theorem d171_37 : decode (cod 171) 37 = .ok (.iadd, 1) := by decide +kernel
theorem d171_38 : decode (cod 171) 38 = .ok (.putfield 72, 3) := by decide +kernel
theorem d171_41 : decode (cod 171) 41 = .ok (.return_, 1) := by decide +kernel
theorem d172_0 : decode (cod 172) 0 = .ok (.iload_n 1, 1) := by decide +kernel
theorem d172_1 : decode (cod 172) 1 = .ok (.tableswitch 88 102 108 #[68, 78, 88, 88, 88, 43, 53], 43) := by decide +kernel
theorem d172_44 : decode (cod 172) 44 = .ok (.aload_n 0, 1) := by decide +kernel
theorem d172_45 : decode (cod 172) 45 = .ok (.aload_n 0, 1) := by decide +kernel
theorem d172_46 : decode (cod 172) 46 = .ok (.getfield 101, 3) := by decide +kernel
theorem d172_49 : decode (cod 172) 49 = .ok (.iconst 0, 1) := by decide +kernel
theorem d172_50 : decode (cod 172) 50 = .ok (.invokevirtual 104, 3) := by decide +kernel
theorem d172_53 : decode (cod 172) 53 = .ok (.ireturn, 1) := by decide +kernel
theorem d172_54 : decode (cod 172) 54 = .ok (.aload_n 0, 1) := by decide +kernel
theorem d172_55 : decode (cod 172) 55 = .ok (.aload_n 0, 1) := by decide +kernel
theorem d172_56 : decode (cod 172) 56 = .ok (.aload_n 0, 1) := by decide +kernel
theorem d172_57 : decode (cod 172) 57 = .ok (.getfield 101, 3) := by decide +kernel
theorem d172_60 : decode (cod 172) 60 = .ok (.iconst 1, 1) := by decide +kernel
theorem d172_61 : decode (cod 172) 61 = .ok (.invokevirtual 104, 3) := by decide +kernel
theorem d172_64 : decode (cod 172) 64 = .ok (.iconst 0, 1) := by decide +kernel
theorem d172_65 : decode (cod 172) 65 = .ok (.invokevirtual 51, 3) := by decide +kernel
theorem d172_68 : decode (cod 172) 68 = .ok (.ireturn, 1) := by decide +kernel
theorem d172_69 : decode (cod 172) 69 = .ok (.aload_n 0, 1) := by decide +kernel
theorem d172_70 : decode (cod 172) 70 = .ok (.aload_n 0, 1) := by decide +kernel
theorem d172_71 : decode (cod 172) 71 = .ok (.getfield 101, 3) := by decide +kernel
theorem d172_74 : decode (cod 172) 74 = .ok (.iconst 1, 1) := by decide +kernel
theorem d172_75 : decode (cod 172) 75 = .ok (.invokevirtual 104, 3) := by decide +kernel
theorem d172_78 : decode (cod 172) 78 = .ok (.ireturn, 1) := by decide +kernel
theorem d172_79 : decode (cod 172) 79 = .ok (.aload_n 0, 1) := by decide +kernel
theorem d172_80 : decode (cod 172) 80 = .ok (.aload_n 0, 1) := by decide +kernel
theorem d172_81 : decode (cod 172) 81 = .ok (.getfield 101, 3) := by decide +kernel
theorem d172_84 : decode (cod 172) 84 = .ok (.iconst 2, 1) := by decide +kernel
theorem d172_85 : decode (cod 172) 85 = .ok (.invokevirtual 104, 3) := by decide +kernel
theorem d172_88 : decode (cod 172) 88 = .ok (.ireturn, 1) := by decide +kernel
theorem d172_89 : decode (cod 172) 89 = .ok (.aload_n 0, 1) := by decide +kernel
theorem d172_90 : decode (cod 172) 90 = .ok (.aload_n 0, 1) := by decide +kernel
theorem d172_91 : decode (cod 172) 91 = .ok (.getfield 101, 3) := by decide +kernel
theorem d172_94 : decode (cod 172) 94 = .ok (.iconst 4, 1) := by decide +kernel
theorem d172_95 : decode (cod 172) 95 = .ok (.invokevirtual 104, 3) := by decide +kernel
theorem d172_98 : decode (cod 172) 98 = .ok (.bipush 100, 2) := by decide +kernel
theorem d172_100 : decode (cod 172) 100 = .ok (.irem, 1) := by decide +kernel
theorem d172_101 : decode (cod 172) 101 = .ok (.ireturn, 1) := by decide +kernel
theorem d173_0 : decode (cod 173) 0 = .ok (.aload_n 0, 1) := by decide +kernel
theorem d173_1 : decode (cod 173) 1 = .ok (.getfield 81, 3) := by decide +kernel
theorem d173_4 : decode (cod 173) 4 = .ok (.ifCond .eq 5, 3) := by decide +kernel
theorem d173_7 : decode (cod 173) 7 = .ok (.iconst 0, 1) := by decide +kernel
theorem d173_8 : decode (cod 173) 8 = .ok (.ireturn, 1) := by decide +kernel
theorem d173_9 : decode (cod 173) 9 = .ok (.aload_n 0, 1) := by decide +kernel
theorem d173_10 : decode (cod 173) 10 = .ok (.invokevirtual 85, 3) := by decide +kernel
theorem d173_13 : decode (cod 173) 13 = .ok (.istore_n 1, 1) := by decide +kernel
theorem d173_14 : decode (cod 173) 14 = .ok (.iload_n 1, 1) := by decide +kernel
theorem d173_15 : decode (cod 173) 15 = .ok (.bipush 33, 2) := by decide +kernel
theorem d173_17 : decode (cod 173) 17 = .ok (.if_icmp .ne 32, 3) := by decide +kernel
theorem d173_20 : decode (cod 173) 20 = .ok (.aload_n 0, 1) := by decide +kernel
theorem d173_21 : decode (cod 173) 21 = .ok (.invokevirtual 107, 3) := by decide +kernel
theorem d173_24 : decode (cod 173) 24 = .ok (.aload_n 0, 1) := by decide +kernel
theorem d173_25 : decode (cod 173) 25 = .ok (.invokevirtual 110, 3) := by decide +kernel
theorem d173_28 : decode (cod 173) 28 = .ok (.istore_n 2, 1) := by decide +kernel
theorem d173_29 : decode (cod 173) 29 = .ok (.aload_n 0, 1) := by decide +kernel
theorem d173_30 : decode (cod 173) 30 = .ok (.dup, 1) := by decide +kernel
theorem d173_31 : decode (cod 173) 31 = .ok (.getfield 98, 3) := by decide +kernel
theorem d173_34 : decode (cod 173) 34 = .ok (.iconst 1, 1) := by decide +kernel
theorem d173_35 : decode (cod 173) 35 = .ok (.isub, 1) := by decide +kernel
theorem d173_36 : decode (cod 173) 36 = .ok (.putfield 98, 3) := by decide +kernel
theorem d173_39 : decode (cod 173) 39 = .ok (.iload_n 2, 1) := by decide +kernel
theorem d173_40 : decode (cod 173) 40 = .ok (.ifCond .ne 7, 3) := by decide +kernel
theorem d173_43 : decode (cod 173) 43 = .ok (.iconst 1, 1) := by decide +kernel
theorem d173_44 : decode (cod 173) 44 = .ok (.goto 4, 3) := by decide +kernel
theorem d173_47 : decode (cod 173) 47 = .ok (.iconst 0, 1) := by decide +kernel
theorem d173_48 : decode (cod 173) 48 = .ok (.ireturn, 1) := by decide +kernel
theorem d173_49 : decode (cod 173) 49 = .ok (.iload_n 1, 1) := by decide +kernel
theorem d173_50 : decode (cod 173) 50 = .ok (.bipush 40, 2) := by decide +kernel
theorem d173_52 : decode (cod 173) 52 = .ok (.if_icmp .ne 30, 3) := by decide +kernel
theorem d173_55 : decode (cod 173) 55 = .ok (.aload_n 0, 1) := by decide +kernel
theorem d173_56 : decode (cod 173) 56 = .ok (.invokevirtual 107, 3) := by decide +kernel
theorem d173_59 : decode (cod 173) 59 = .ok (.aload_n 0, 1) := by decide +kernel
theorem d173_60 : decode (cod 173) 60 = .ok (.invokevirtual 114, 3) := by decide +kernel
theorem d173_63 : decode (cod 173) 63 = .ok (.istore_n 2, 1) := by decide +kernel
theorem d173_64 : decode (cod 173) 64 = .ok (.aload_n 0, 1) := by decide +kernel
theorem d173_65 : decode (cod 173) 65 = .ok (.bipush 41, 2) := by decide +kernel
theorem d173_67 : decode (cod 173) 67 = .ok (.invokevirtual 88, 3) := by decide +kernel
theorem d173_70 : decode (cod 173) 70 = .ok (.aload_n 0, 1) := by decide +kernel
theorem d173_71 : decode (cod 173) 71 = .ok (.dup, 1) := by decide +kernel
theorem d173_72 : decode (cod 173) 72 = .ok (.getfield 98, 3) := by decide +kernel
theorem d173_75 : decode (cod 173) 75 = .ok (.iconst 1, 1) := by decide +kernel
theorem d173_76 : decode (cod 173) 76 = .ok (.isub, 1) := by decide +kernel
theorem d173_77 : decode (cod 173) 77 = .ok (.putfield 98, 3) := by decide +kernel
theorem d173_80 : decode (cod 173) 80 = .ok (.iload_n 2, 1) := by decide +kernel
theorem d173_81 : decode (cod 173) 81 = .ok (.ireturn, 1) := by decide +kernel
theorem d173_82 : decode (cod 173) 82 = .ok (.iload_n 1, 1) := by decide +kernel
theorem d173_83 : decode (cod 173) 83 = .ok (.bipush 107, 2) := by decide +kernel
theorem d173_85 : decode (cod 173) 85 = .ok (.if_icmp .eq 34, 3) := by decide +kernel
theorem d173_88 : decode (cod 173) 88 = .ok (.iload_n 1, 1) := by decide +kernel
theorem d173_89 : decode (cod 173) 89 = .ok (.bipush 108, 2) := by decide +kernel
theorem d173_91 : decode (cod 173) 91 = .ok (.if_icmp .eq 28, 3) := by decide +kernel
theorem d173_94 : decode (cod 173) 94 = .ok (.iload_n 1, 1) := by decide +kernel
theorem d173_95 : decode (cod 173) 95 = .ok (.bipush 102, 2) := by decide +kernel
theorem d173_97 : decode (cod 173) 97 = .ok (.if_icmp .eq 22, 3) := by decide +kernel
theorem d173_100 : decode (cod 173) 100 = .ok (.iload_n 1, 1) := by decide +kernel
theorem d173_101 : decode (cod 173) 101 = .ok (.bipush 103, 2) := by decide +kernel
theorem d173_103 : decode (cod 173) 103 = .ok (.if_icmp .eq 16, 3) := by decide +kernel
theorem d173_106 : decode (cod 173) 106 = .ok (.iload_n 1, 1) := by decide +kernel
theorem d173_107 : decode (cod 173) 107 = .ok (.bipush 104, 2) := by decide +kernel
theorem d173_109 : decode (cod 173) 109 = .ok (.if_icmp .eq 10, 3) := by decide +kernel
theorem d173_112 : decode (cod 173) 112 = .ok (.aload_n 0, 1) := by decide +kernel
theorem d173_113 : decode (cod 173) 113 = .ok (.iconst 1, 1) := by decide +kernel
theorem d173_114 : decode (cod 173) 114 = .ok (.putfield 81, 3) := by decide +kernel
theorem d173_117 : decode (cod 173) 117 = .ok (.iconst 0, 1) := by decide +kernel
theorem d173_118 : decode (cod 173) 118 = .ok (.ireturn, 1) := by decide +kernel
theorem d173_119 : decode (cod 173) 119 = .ok (.aload_n 0, 1) := by decide +kernel
theorem d173_120 : decode (cod 173) 120 = .ok (.dup, 1) := by decide +kernel
theorem d173_121 : decode (cod 173) 121 = .ok (.getfield 72, 3) := by decide +kernel
theorem d173_124 : decode (cod 173) 124 = .ok (.iconst 1, 1) := by decide +kernel
theorem d173_125 : decode (cod 173) 125 = .ok (.iadd, 1) := by decide +kernel
theorem d173_126 : decode (cod 173) 126 = .ok (.putfield 72, 3) := by decide +kernel
theorem d173_129 : decode (cod 173) 129 = .ok (.aload_n 0, 1) := by decide +kernel
theorem d173_130 : decode (cod 173) 130 = .ok (.invokevirtual 85, 3) := by decide +kernel
theorem d173_133 : decode (cod 173) 133 = .ok (.istore_n 2, 1) := by decide +kernel
theorem d173_134 : decode (cod 173) 134 = .ok (.iload_n 1, 1) := by decide +kernel
theorem d173_135 : decode (cod 173) 135 = .ok (.bipush 104, 2) := by decide +kernel
theorem d173_137 : decode (cod 173) 137 = .ok (.if_icmp .ne 18, 3) := by decide +kernel
theorem d173_140 : decode (cod 173) 140 = .ok (.iload_n 2, 1) := by decide +kernel
theorem d173_141 : decode (cod 173) 141 = .ok (.bipush 60, 2) := by decide +kernel
theorem d173_143 : decode (cod 173) 143 = .ok (.if_icmp .eq 25, 3) := by decide +kernel
theorem d173_146 : decode (cod 173) 146 = .ok (.iload_n 2, 1) := by decide +kernel
theorem d173_147 : decode (cod 173) 147 = .ok (.bipush 62, 2) := by decide +kernel
theorem d173_149 : decode (cod 173) 149 = .ok (.if_icmp .eq 19, 3) := by decide +kernel
theorem d173_152 : decode (cod 173) 152 = .ok (.goto 9, 3) := by decide +kernel
theorem d173_155 : decode (cod 173) 155 = .ok (.iload_n 2, 1) := by decide +kernel
theorem d173_156 : decode (cod 173) 156 = .ok (.bipush 61, 2) := by decide +kernel
theorem d173_158 : decode (cod 173) 158 = .ok (.if_icmp .eq 10, 3) := by decide +kernel
theorem d173_161 : decode (cod 173) 161 = .ok (.aload_n 0, 1) := by decide +kernel
theorem d173_162 : decode (cod 173) 162 = .ok (.iconst 1, 1) := by decide +kernel
theorem d173_163 : decode (cod 173) 163 = .ok (.putfield 81, 3) := by decide +kernel
theorem d173_166 : decode (cod 173) 166 = .ok (.iconst 0, 1) := by decide +kernel
theorem d173_167 : decode (cod 173) 167 = .ok (.ireturn, 1) := by decide +kernel
theorem d173_168 : decode (cod 173) 168 = .ok (.aload_n 0, 1) := by decide +kernel
theorem d173_169 : decode (cod 173) 169 = .ok (.dup, 1) := by decide +kernel
theorem d173_170 : decode (cod 173) 170 = .ok (.getfield 72, 3) := by decide +kernel
theorem d173_173 : decode (cod 173) 173 = .ok (.iconst 1, 1) := by decide +kernel
theorem d173_174 : decode (cod 173) 174 = .ok (.iadd, 1) := by decide +kernel
theorem d173_175 : decode (cod 173) 175 = .ok (.putfield 72, 3) := by decide +kernel
theorem d173_178 : decode (cod 173) 178 = .ok (.aload_n 0, 1) := by decide +kernel
theorem d173_179 : decode (cod 173) 179 = .ok (.invokevirtual 117, 3) := by decide +kernel
theorem d173_182 : decode (cod 173) 182 = .ok (.istore_n 3, 1) := by decide +kernel
theorem d173_183 : decode (cod 173) 183 = .ok (.aload_n 0, 1) := by decide +kernel
theorem d173_184 : decode (cod 173) 184 = .ok (.getfield 101, 3) := by decide +kernel
theorem d173_187 : decode (cod 173) 187 = .ok (.iconst (-1), 1) := by decide +kernel
theorem d173_188 : decode (cod 173) 188 = .ok (.if_icmp .ne 7, 3) := by decide +kernel
theorem d173_191 : decode (cod 173) 191 = .ok (.iconst 0, 1) := by decide +kernel
theorem d173_192 : decode (cod 173) 192 = .ok (.goto 8, 3) := by decide +kernel
theorem d173_195 : decode (cod 173) 195 = .ok (.aload_n 0, 1) := by decide +kernel
theorem d173_196 : decode (cod 173) 196 = .ok (.iload_n 1, 1) := by decide +kernel
theorem d173_197 : decode (cod 173) 197 = .ok (.invokevirtual 120, 3) := by decide +kernel
theorem d173_200 : decode (cod 173) 200 = .ok (.istore 4, 2) := by decide +kernel
theorem d173_202 : decode (cod 173) 202 = .ok (.iload_n 2, 1) := by decide +kernel
theorem d173_203 : decode (cod 173) 203 = .ok (.bipush 61, 2) := by decide +kernel
theorem d173_205 : decode (cod 173) 205 = .ok (.if_icmp .ne 17, 3) := by decide +kernel
theorem d173_208 : decode (cod 173) 208 = .ok (.iload 4, 2) := by decide +kernel
theorem d173_210 : decode (cod 173) 210 = .ok (.iload_n 3, 1) := by decide +kernel
theorem d173_211 : decode (cod 173) 211 = .ok (.if_icmp .ne 7, 3) := by decide +kernel
theorem d173_214 : decode (cod 173) 214 = .ok (.iconst 1, 1) := by decide +kernel
theorem d173_215 : decode (cod 173) 215 = .ok (.goto 38, 3) := by decide +kernel
theorem d173_218 : decode (cod 173) 218 = .ok (.iconst 0, 1) := by decide +kernel
theorem d173_219 : decode (cod 173) 219 = .ok (.goto 34, 3) := by decide +kernel
theorem d173_222 : decode (cod 173) 222 = .ok (.iload_n 2, 1) := by decide +kernel
theorem d173_223 : decode (cod 173) 223 = .ok (.bipush 60, 2) := by decide +kernel
theorem d173_225 : decode (cod 173) 225 = .ok (.if_icmp .ne 17, 3) := by decide +kernel
theorem d173_228 : decode (cod 173) 228 = .ok (.iload 4, 2) := by decide +kernel
theorem d173_230 : decode (cod 173) 230 = .ok (.iload_n 3, 1) := by decide +kernel
theorem d173_231 : decode (cod 173) 231 = .ok (.if_icmp .ge 7, 3) := by decide +kernel
theorem d173_234 : decode (cod 173) 234 = .ok (.iconst 1, 1) := by decide +kernel
theorem d173_235 : decode (cod 173) 235 = .ok (.goto 18, 3) := by decide +kernel
theorem d173_238 : decode (cod 173) 238 = .ok (.iconst 0, 1) := by decide +kernel
theorem d173_239 : decode (cod 173) 239 = .ok (.goto 14, 3) := by decide +kernel
theorem d173_242 : decode (cod 173) 242 = .ok (.iload 4, 2) := by decide +kernel
theorem d173_244 : decode (cod 173) 244 = .ok (.iload_n 3, 1) := by decide +kernel
theorem d173_245 : decode (cod 173) 245 = .ok (.if_icmp .le 7, 3) := by decide +kernel
theorem d173_248 : decode (cod 173) 248 = .ok (.iconst 1, 1) := by decide +kernel
theorem d173_249 : decode (cod 173) 249 = .ok (.goto 4, 3) := by decide +kernel
theorem d173_252 : decode (cod 173) 252 = .ok (.iconst 0, 1) := by decide +kernel
theorem d173_253 : decode (cod 173) 253 = .ok (.ireturn, 1) := by decide +kernel
theorem d174_0 : decode (cod 174) 0 = .ok (.aload_n 0, 1) := by decide +kernel
theorem d174_1 : decode (cod 174) 1 = .ok (.invokevirtual 110, 3) := by decide +kernel
theorem d174_4 : decode (cod 174) 4 = .ok (.istore_n 1, 1) := by decide +kernel
theorem d174_5 : decode (cod 174) 5 = .ok (.aload_n 0, 1) := by decide +kernel
theorem d174_6 : decode (cod 174) 6 = .ok (.getfield 81, 3) := by decide +kernel
theorem d174_9 : decode (cod 174) 9 = .ok (.ifCond .ne 44, 3) := by decide +kernel
theorem d174_12 : decode (cod 174) 12 = .ok (.aload_n 0, 1) := by decide +kernel
theorem d174_13 : decode (cod 174) 13 = .ok (.invokevirtual 85, 3) := by decide +kernel
theorem d174_16 : decode (cod 174) 16 = .ok (.bipush 38, 2) := by decide +kernel
theorem d174_18 : decode (cod 174) 18 = .ok (.if_icmp .ne 35, 3) := by decide +kernel
theorem d174_21 : decode (cod 174) 21 = .ok (.aload_n 0, 1) := by decide +kernel
theorem d174_22 : decode (cod 174) 22 = .ok (.dup, 1) := by decide +kernel
theorem d174_23 : decode (cod 174) 23 = .ok (.getfield 72, 3) := by decide +kernel
theorem d174_26 : decode (cod 174) 26 = .ok (.iconst 1, 1) := by decide +kernel
theorem d174_27 : decode (cod 174) 27 = .ok (.iadd, 1) := by decide +kernel
theorem d174_28 : decode (cod 174) 28 = .ok (.putfield 72, 3) := by decide +kernel
theorem d174_31 : decode (cod 174) 31 = .ok (.aload_n 0, 1) := by decide +kernel
theorem d174_32 : decode (cod 174) 32 = .ok (.invokevirtual 110, 3) := by decide +kernel
theorem d174_35 : decode (cod 174) 35 = .ok (.istore_n 2, 1) := by decide +kernel
theorem d174_36 : decode (cod 174) 36 = .ok (.iload_n 1, 1) := by decide +kernel
theorem d174_37 : decode (cod 174) 37 = .ok (.ifCond .eq 11, 3) := by decide +kernel
theorem d174_40 : decode (cod 174) 40 = .ok (.iload_n 2, 1) := by decide +kernel
theorem d174_41 : decode (cod 174) 41 = .ok (.ifCond .eq 7, 3) := by decide +kernel
theorem d174_44 : decode (cod 174) 44 = .ok (.iconst 1, 1) := by decide +kernel
theorem d174_45 : decode (cod 174) 45 = .ok (.goto 4, 3) := by decide +kernel
theorem d174_48 : decode (cod 174) 48 = .ok (.iconst 0, 1) := by decide +kernel
theorem d174_49 : decode (cod 174) 49 = .ok (.istore_n 1, 1) := by decide +kernel
theorem d174_50 : decode (cod 174) 50 = .ok (.goto (-45), 3) := by decide +kernel
theorem d174_53 : decode (cod 174) 53 = .ok (.iload_n 1, 1) := by decide +kernel
theorem d174_54 : decode (cod 174) 54 = .ok (.ireturn, 1) := by decide +kernel
theorem d175_0 : decode (cod 175) 0 = .ok (.aload_n 0, 1) := by decide +kernel
theorem d175_1 : decode (cod 175) 1 = .ok (.invokevirtual 123, 3) := by decide +kernel
theorem d175_4 : decode (cod 175) 4 = .ok (.istore_n 1, 1) := by decide +kernel
theorem d175_5 : decode (cod 175) 5 = .ok (.aload_n 0, 1) := by decide +kernel
theorem d175_6 : decode (cod 175) 6 = .ok (.getfield 81, 3) := by decide +kernel
theorem d175_9 : decode (cod 175) 9 = .ok (.ifCond .ne 44, 3) := by decide +kernel
theorem d175_12 : decode (cod 175) 12 = .ok (.aload_n 0, 1) := by decide +kernel
theorem d175_13 : decode (cod 175) 13 = .ok (.invokevirtual 85, 3) := by decide +kernel
theorem d175_16 : decode (cod 175) 16 = .ok (.bipush 124, 2) := by decide +kernel
theorem d175_18 : decode (cod 175) 18 = .ok (.if_icmp .ne 35, 3) := by decide +kernel
theorem d175_21 : decode (cod 175) 21 = .ok (.aload_n 0, 1) := by decide +kernel
theorem d175_22 : decode (cod 175) 22 = .ok (.dup, 1) := by decide +kernel
theorem d175_23 : decode (cod 175) 23 = .ok (.getfield 72, 3) := by decide +kernel
theorem d175_26 : decode (cod 175) 26 = .ok (.iconst 1, 1) := by decide +kernel
theorem d175_27 : decode (cod 175) 27 = .ok (.iadd, 1) := by decide +kernel
theorem d175_28 : decode (cod 175) 28 = .ok (.putfield 72, 3) := by decide +kernel
theorem d175_31 : decode (cod 175) 31 = .ok (.aload_n 0, 1) := by decide +kernel
theorem d175_32 : decode (cod 175) 32 = .ok (.invokevirtual 123, 3) := by decide +kernel
theorem d175_35 : decode (cod 175) 35 = .ok (.istore_n 2, 1) := by decide +kernel
theorem d175_36 : decode (cod 175) 36 = .ok (.iload_n 1, 1) := by decide +kernel
theorem d175_37 : decode (cod 175) 37 = .ok (.ifCond .ne 7, 3) := by decide +kernel
theorem d175_40 : decode (cod 175) 40 = .ok (.iload_n 2, 1) := by decide +kernel
theorem d175_41 : decode (cod 175) 41 = .ok (.ifCond .eq 7, 3) := by decide +kernel
theorem d175_44 : decode (cod 175) 44 = .ok (.iconst 1, 1) := by decide +kernel
theorem d175_45 : decode (cod 175) 45 = .ok (.goto 4, 3) := by decide +kernel
theorem d175_48 : decode (cod 175) 48 = .ok (.iconst 0, 1) := by decide +kernel
theorem d175_49 : decode (cod 175) 49 = .ok (.istore_n 1, 1) := by decide +kernel
theorem d175_50 : decode (cod 175) 50 = .ok (.goto (-45), 3) := by decide +kernel
theorem d175_53 : decode (cod 175) 53 = .ok (.iload_n 1, 1) := by decide +kernel
theorem d175_54 : decode (cod 175) 54 = .ok (.ireturn, 1) := by decide +kernel
theorem d176_0 : decode (cod 176) 0 = .ok (.aload_n 0, 1) := by decide +kernel
theorem d176_1 : decode (cod 176) 1 = .ok (.iload_n 1, 1) := by decide +kernel
theorem d176_2 : decode (cod 176) 2 = .ok (.putfield 78, 3) := by decide +kernel
theorem d176_5 : decode (cod 176) 5 = .ok (.aload_n 0, 1) := by decide +kernel
theorem d176_6 : decode (cod 176) 6 = .ok (.iload_n 2, 1) := by decide +kernel
theorem d176_7 : decode (cod 176) 7 = .ok (.putfield 75, 3) := by decide +kernel
theorem d176_10 : decode (cod 176) 10 = .ok (.aload_n 0, 1) := by decide +kernel
theorem d176_11 : decode (cod 176) 11 = .ok (.iconst 0, 1) := by decide +kernel
theorem d176_12 : decode (cod 176) 12 = .ok (.putfield 72, 3) := by decide +kernel
theorem d176_15 : decode (cod 176) 15 = .ok (.aload_n 0, 1) := by decide +kernel
theorem d176_16 : decode (cod 176) 16 = .ok (.iconst 0, 1) := by decide +kernel
theorem d176_17 : decode (cod 176) 17 = .ok (.putfield 98, 3) := by decide +kernel
theorem d176_20 : decode (cod 176) 20 = .ok (.aload_n 0, 1) := by decide +kernel
theorem d176_21 : decode (cod 176) 21 = .ok (.iconst 0, 1) := by decide +kernel
theorem d176_22 : decode (cod 176) 22 = .ok (.putfield 81, 3) := by decide +kernel
theorem d176_25 : decode (cod 176) 25 = .ok (.aload_n 0, 1) := by decide +kernel
theorem d176_26 : decode (cod 176) 26 = .ok (.iload 4, 2) := by decide +kernel
theorem d176_28 : decode (cod 176) 28 = .ok (.putfield 101, 3) := by decide +kernel
theorem d176_31 : decode (cod 176) 31 = .ok (.aload_n 0, 1) := by decide +kernel
theorem d176_32 : decode (cod 176) 32 = .ok (.iconst 0, 1) := by decide +kernel
theorem d176_33 : decode (cod 176) 33 = .ok (.putfield 126, 3) := by decide +kernel
theorem d176_36 : decode (cod 176) 36 = .ok (.iconst 1, 1) := by decide +kernel
theorem d176_37 : decode (cod 176) 37 = .ok (.istore 5, 2) := by decide +kernel
theorem d176_39 : decode (cod 176) 39 = .ok (.iconst 0, 1) := by decide +kernel
theorem d176_40 : decode (cod 176) 40 = .ok (.istore 6, 2) := by decide +kernel
theorem d176_42 : decode (cod 176) 42 = .ok (.iload 5, 2) := by decide +kernel
theorem d176_44 : decode (cod 176) 44 = .ok (.ifCond .eq 197, 3) := by decide +kernel
theorem d176_47 : decode (cod 176) 47 = .ok (.aload_n 0, 1) := by decide +kernel
theorem d176_48 : decode (cod 176) 48 = .ok (.invokevirtual 129, 3) := by decide +kernel
theorem d176_51 : decode (cod 176) 51 = .ok (.istore 7, 2) := by decide +kernel
theorem d176_53 : decode (cod 176) 53 = .ok (.aload_n 0, 1) := by decide +kernel
theorem d176_54 : decode (cod 176) 54 = .ok (.bipush 32, 2) := by decide +kernel
theorem d176_56 : decode (cod 176) 56 = .ok (.invokevirtual 88, 3) := by decide +kernel
theorem d176_59 : decode (cod 176) 59 = .ok (.iload 7, 2) := by decide +kernel
theorem d176_61 : decode (cod 176) 61 = .ok (.iconst 5, 1) := by decide +kernel
theorem d176_62 : decode (cod 176) 62 = .ok (.if_icmp .ne 7, 3) := by decide +kernel
theorem d176_65 : decode (cod 176) 65 = .ok (.iconst 0, 1) := by decide +kernel
theorem d176_66 : decode (cod 176) 66 = .ok (.goto 7, 3) := by decide +kernel
theorem d176_69 : decode (cod 176) 69 = .ok (.aload_n 0, 1) := by decide +kernel
theorem d176_70 : decode (cod 176) 70 = .ok (.invokevirtual 117, 3) := by decide +kernel
theorem d176_73 : decode (cod 176) 73 = .ok (.istore 8, 2) := by decide +kernel
theorem d176_75 : decode (cod 176) 75 = .ok (.iload 7, 2) := by decide +kernel
theorem d176_77 : decode (cod 176) 77 = .ok (.ifCond .ne 9, 3) := by decide +kernel
theorem d176_80 : decode (cod 176) 80 = .ok (.aload_n 0, 1) := by decide +kernel
theorem d176_81 : decode (cod 176) 81 = .ok (.bipush 32, 2) := by decide +kernel
theorem d176_83 : decode (cod 176) 83 = .ok (.invokevirtual 88, 3) := by decide +kernel
theorem d176_86 : decode (cod 176) 86 = .ok (.iload 7, 2) := by decide +kernel
theorem d176_88 : decode (cod 176) 88 = .ok (.ifCond .eq 9, 3) := by decide +kernel
theorem d176_91 : decode (cod 176) 91 = .ok (.iload 7, 2) := by decide +kernel
theorem d176_93 : decode (cod 176) 93 = .ok (.iconst 5, 1) := by decide +kernel
theorem d176_94 : decode (cod 176) 94 = .ok (.if_icmp .ne 10, 3) := by decide +kernel
theorem d176_97 : decode (cod 176) 97 = .ok (.aload_n 0, 1) := by decide +kernel
theorem d176_98 : decode (cod 176) 98 = .ok (.invokevirtual 114, 3) := by decide +kernel
theorem d176_101 : decode (cod 176) 101 = .ok (.ifCond .eq 7, 3) := by decide +kernel
theorem d176_104 : decode (cod 176) 104 = .ok (.iconst 1, 1) := by decide +kernel
theorem d176_105 : decode (cod 176) 105 = .ok (.goto 4, 3) := by decide +kernel
theorem d176_108 : decode (cod 176) 108 = .ok (.iconst 0, 1) := by decide +kernel
theorem d176_109 : decode (cod 176) 109 = .ok (.istore 9, 2) := by decide +kernel
theorem d176_111 : decode (cod 176) 111 = .ok (.iload 7, 2) := by decide +kernel
theorem d176_113 : decode (cod 176) 113 = .ok (.iload_n 3, 1) := by decide +kernel
theorem d176_114 : decode (cod 176) 114 = .ok (.if_icmp .ne 50, 3) := by decide +kernel
theorem d176_117 : decode (cod 176) 117 = .ok (.iload 9, 2) := by decide +kernel
theorem d176_119 : decode (cod 176) 119 = .ok (.ifCond .ne 9, 3) := by decide +kernel
theorem d176_122 : decode (cod 176) 122 = .ok (.iload 7, 2) := by decide +kernel
theorem d176_124 : decode (cod 176) 124 = .ok (.iconst 5, 1) := by decide +kernel
theorem d176_125 : decode (cod 176) 125 = .ok (.if_icmp .ne 39, 3) := by decide +kernel
theorem d176_128 : decode (cod 176) 128 = .ok (.aload_n 0, 1) := by decide +kernel
theorem d176_129 : decode (cod 176) 129 = .ok (.iconst 1, 1) := by decide +kernel
theorem d176_130 : decode (cod 176) 130 = .ok (.putfield 126, 3) := by decide +kernel
theorem d176_133 : decode (cod 176) 133 = .ok (.aload_n 0, 1) := by decide +kernel
theorem d176_134 : decode (cod 176) 134 = .ok (.iload 7, 2) := by decide +kernel
theorem d176_136 : decode (cod 176) 136 = .ok (.iconst 5, 1) := by decide +kernel
theorem d176_137 : decode (cod 176) 137 = .ok (.if_icmp .ne 16, 3) := by decide +kernel
theorem d176_140 : decode (cod 176) 140 = .ok (.iload 9, 2) := by decide +kernel
theorem d176_142 : decode (cod 176) 142 = .ok (.ifCond .eq 7, 3) := by decide +kernel
theorem d176_145 : decode (cod 176) 145 = .ok (.iconst 1, 1) := by decide +kernel
theorem d176_146 : decode (cod 176) 146 = .ok (.goto 9, 3) := by decide +kernel
theorem d176_149 : decode (cod 176) 149 = .ok (.iconst 0, 1) := by decide +kernel
theorem d176_150 : decode (cod 176) 150 = .ok (.goto 5, 3) := by decide +kernel
theorem d176_153 : decode (cod 176) 153 = .ok (.iload 8, 2) := by decide +kernel
theorem d176_155 : decode (cod 176) 155 = .ok (.putfield 132, 3) := by decide +kernel
theorem d176_158 : decode (cod 176) 158 = .ok (.aload_n 0, 1) := by decide +kernel
theorem d176_159 : decode (cod 176) 159 = .ok (.iload 6, 2) := by decide +kernel
theorem d176_161 : decode (cod 176) 161 = .ok (.putfield 135, 3) := by decide +kernel
theorem d176_164 : decode (cod 176) 164 = .ok (.aload_n 0, 1) := by decide +kernel
theorem d176_165 : decode (cod 176) 165 = .ok (.getfield 81, 3) := by decide +kernel
theorem d176_168 : decode (cod 176) 168 = .ok (.ifCond .ne 18, 3) := by decide +kernel
theorem d176_171 : decode (cod 176) 171 = .ok (.aload_n 0, 1) := by decide +kernel
theorem d176_172 : decode (cod 176) 172 = .ok (.getfield 72, 3) := by decide +kernel
theorem d176_175 : decode (cod 176) 175 = .ok (.aload_n 0, 1) := by decide +kernel
theorem d176_176 : decode (cod 176) 176 = .ok (.getfield 75, 3) := by decide +kernel
theorem d176_179 : decode (cod 176) 179 = .ok (.if_icmp .ge 7, 3) := by decide +kernel
theorem d176_182 : decode (cod 176) 182 = .ok (.iconst 1, 1) := by decide +kernel
theorem d176_183 : decode (cod 176) 183 = .ok (.goto 4, 3) := by decide +kernel
theorem d176_186 : decode (cod 176) 186 = .ok (.iconst 0, 1) := by decide +kernel
theorem d176_187 : decode (cod 176) 187 = .ok (.istore 5, 2) := by decide +kernel
theorem d176_189 : decode (cod 176) 189 = .ok (.iload 5, 2) := by decide +kernel
theorem d176_191 : decode (cod 176) 191 = .ok (.ifCond .eq 29, 3) := by decide +kernel
theorem d176_194 : decode (cod 176) 194 = .ok (.iload 6, 2) := by decide +kernel
theorem d176_196 : decode (cod 176) 196 = .ok (.iconst 1, 1) := by decide +kernel
theorem d176_197 : decode (cod 176) 197 = .ok (.iadd, 1) := by decide +kernel
theorem d176_198 : decode (cod 176) 198 = .ok (.bipush 8, 2) := by decide +kernel
theorem d176_200 : decode (cod 176) 200 = .ok (.if_icmp .eq 12, 3) := by decide +kernel
theorem d176_203 : decode (cod 176) 203 = .ok (.aload_n 0, 1) := by decide +kernel
theorem d176_204 : decode (cod 176) 204 = .ok (.invokevirtual 85, 3) := by decide +kernel
theorem d176_207 : decode (cod 176) 207 = .ok (.bipush 59, 2) := by decide +kernel
theorem d176_209 : decode (cod 176) 209 = .ok (.if_icmp .eq 11, 3) := by decide +kernel
theorem d176_212 : decode (cod 176) 212 = .ok (.aload_n 0, 1) := by decide +kernel
theorem d176_213 : decode (cod 176) 213 = .ok (.iconst 1, 1) := by decide +kernel
theorem d176_214 : decode (cod 176) 214 = .ok (.putfield 81, 3) := by decide +kernel
theorem d176_217 : decode (cod 176) 217 = .ok (.iconst 0, 1) := by decide +kernel
theorem d176_218 : decode (cod 176) 218 = .ok (.istore 5, 2) := by decide +kernel
theorem d176_220 : decode (cod 176) 220 = .ok (.iload 5, 2) := by decide +kernel
theorem d176_222 : decode (cod 176) 222 = .ok (.ifCond .eq 13, 3) := by decide +kernel
theorem d176_225 : decode (cod 176) 225 = .ok (.aload_n 0, 1) := by decide +kernel
theorem d176_226 : decode (cod 176) 226 = .ok (.dup, 1) := by decide +kernel
theorem d176_227 : decode (cod 176) 227 = .ok (.getfield 72, 3) := by decide +kernel
theorem d176_230 : decode (cod 176) 230 = .ok (.iconst 1, 1) := by decide +kernel
theorem d176_231 : decode (cod 176) 231 = .ok (.iadd, 1) := by decide +kernel
theorem d176_232 : decode (cod 176) 232 = .ok (.putfield 72, 3) := by decide +kernel
theorem d176_235 : decode (cod 176) 235 = .ok (.iinc 6 1, 3) := by decide +kernel
theorem d176_238 : decode (cod 176) 238 = .ok (.goto (-196), 3) := by decide +kernel
theorem d176_241 : decode (cod 176) 241 = .ok (.return_, 1) := by decide +kernel
theorem d177_0 : decode (cod 177) 0 = .ok (.iload_n 3, 1) := by decide +kernel
theorem d177_1 : decode (cod 177) 1 = .ok (.iconst 1, 1) := by decide +kernel
theorem d177_2 : decode (cod 177) 2 = .ok (.bipush 8, 2) := by decide +kernel
theorem d177_4 : decode (cod 177) 4 = .ok (.invokestatic 36, 3) := by decide +kernel
theorem d177_7 : decode (cod 177) 7 = .ok (.ifCond .ne 6, 3) := by decide +kernel
theorem d177_10 : decode (cod 177) 10 = .ok (.bipush (-2), 2) := by decide +kernel
theorem d177_12 : decode (cod 177) 12 = .ok (.ireturn, 1) := by decide +kernel
theorem d177_13 : decode (cod 177) 13 = .ok (.aload_n 0, 1) := by decide +kernel
theorem d177_14 : decode (cod 177) 14 = .ok (.getfield 13, 3) := by decide +kernel
theorem d177_17 : decode (cod 177) 17 = .ok (.bipush 8, 2) := by decide +kernel
theorem d177_19 : decode (cod 177) 19 = .ok (.iaload, 1) := by decide +kernel
theorem d177_20 : decode (cod 177) 20 = .ok (.iload_n 3, 1) := by decide +kernel
theorem d177_21 : decode (cod 177) 21 = .ok (.iadd, 1) := by decide +kernel
theorem d177_22 : decode (cod 177) 22 = .ok (.bipush 120, 2) := by decide +kernel
theorem d177_24 : decode (cod 177) 24 = .ok (.if_icmp .le 6, 3) := by decide +kernel
theorem d177_27 : decode (cod 177) 27 = .ok (.bipush (-4), 2) := by decide +kernel
theorem d177_29 : decode (cod 177) 29 = .ok (.ireturn, 1) := by decide +kernel
theorem d177_30 : decode (cod 177) 30 = .ok (.iload_n 3, 1) := by decide +kernel
theorem d177_31 : decode (cod 177) 31 = .ok (.iconst 1, 1) := by decide +kernel
theorem d177_32 : decode (cod 177) 32 = .ok (.isub, 1) := by decide +kernel
theorem d177_33 : decode (cod 177) 33 = .ok (.istore 4, 2) := by decide +kernel
theorem d177_35 : decode (cod 177) 35 = .ok (.iload 4, 2) := by decide +kernel
theorem d177_37 : decode (cod 177) 37 = .ok (.ifCond .lt 48, 3) := by decide +kernel
theorem d177_40 : decode (cod 177) 40 = .ok (.aload_n 0, 1) := by decide +kernel
theorem d177_41 : decode (cod 177) 41 = .ok (.getfield 13, 3) := by decide +kernel
theorem d177_44 : decode (cod 177) 44 = .ok (.sipush 2336, 3) := by decide +kernel
theorem d177_47 : decode (cod 177) 47 = .ok (.aload_n 0, 1) := by decide +kernel
theorem d177_48 : decode (cod 177) 48 = .ok (.getfield 13, 3) := by decide +kernel
theorem d177_51 : decode (cod 177) 51 = .ok (.bipush 8, 2) := by decide +kernel
theorem d177_53 : decode (cod 177) 53 = .ok (.iaload, 1) := by decide +kernel
theorem d177_54 : decode (cod 177) 54 = .ok (.iadd, 1) := by decide +kernel
theorem d177_55 : decode (cod 177) 55 = .ok (.lload_n 1, 1) := by decide +kernel
theorem d177_56 : decode (cod 177) 56 = .ok (.bipush 8, 2) := by decide +kernel
theorem d177_58 : decode (cod 177) 58 = .ok (.iload 4, 2) := by decide +kernel
theorem d177_60 : decode (cod 177) 60 = .ok (.imul, 1) := by decide +kernel
theorem d177_61 : decode (cod 177) 61 = .ok (.lshr, 1) := by decide +kernel
theorem d177_62 : decode (cod 177) 62 = .ok (.ldc2_w 138, 3) := by decide +kernel
theorem d177_65 : decode (cod 177) 65 = .ok (.land, 1) := by decide +kernel
theorem d177_66 : decode (cod 177) 66 = .ok (.l2i, 1) := by decide +kernel
theorem d177_67 : decode (cod 177) 67 = .ok (.iastore, 1) := by decide +kernel
theorem d177_68 : decode (cod 177) 68 = .ok (.aload_n 0, 1) := by decide +kernel
theorem d177_69 : decode (cod 177) 69 = .ok (.getfield 13, 3) := by decide +kernel
theorem d177_72 : decode (cod 177) 72 = .ok (.bipush 8, 2) := by decide +kernel
theorem d177_74 : decode (cod 177) 74 = .ok (.dup2, 1) := by decide +kernel
theorem d177_75 : decode (cod 177) 75 = .ok (.iaload, 1) := by decide +kernel
theorem d177_76 : decode (cod 177) 76 = .ok (.iconst 1, 1) := by decide +kernel
theorem d177_77 : decode (cod 177) 77 = .ok (.iadd, 1) := by decide +kernel
theorem d177_78 : decode (cod 177) 78 = .ok (.iastore, 1) := by decide +kernel
theorem d177_79 : decode (cod 177) 79 = .ok (.iinc 4 (-1), 3) := by decide +kernel
theorem d177_82 : decode (cod 177) 82 = .ok (.goto (-47), 3) := by decide +kernel
theorem d177_85 : decode (cod 177) 85 = .ok (.aload_n 0, 1) := by decide +kernel
theorem d177_86 : decode (cod 177) 86 = .ok (.getfield 13, 3) := by decide +kernel
theorem d177_89 : decode (cod 177) 89 = .ok (.bipush 8, 2) := by decide +kernel
theorem d177_91 : decode (cod 177) 91 = .ok (.iaload, 1) := by decide +kernel
theorem d177_92 : decode (cod 177) 92 = .ok (.ireturn, 1) := by decide +kernel
theorem d178_0 : decode (cod 178) 0 = .ok (.iload_n 1, 1) := by decide +kernel
theorem d178_1 : decode (cod 178) 1 = .ok (.invokestatic 140, 3) := by decide +kernel
theorem d178_4 : decode (cod 178) 4 = .ok (.ifCond .ne 6, 3) := by decide +kernel
theorem d178_7 : decode (cod 178) 7 = .ok (.bipush (-2), 2) := by decide +kernel
theorem d178_9 : decode (cod 178) 9 = .ok (.ireturn, 1) := by decide +kernel
theorem d178_10 : decode (cod 178) 10 = .ok (.aload_n 0, 1) := by decide +kernel
theorem d178_11 : decode (cod 178) 11 = .ok (.getfield 13, 3) := by decide +kernel
theorem d178_14 : decode (cod 178) 14 = .ok (.iconst 1, 1) := by decide +kernel
theorem d178_15 : decode (cod 178) 15 = .ok (.iaload, 1) := by decide +kernel
theorem d178_16 : decode (cod 178) 16 = .ok (.bipush 10, 2) := by decide +kernel
theorem d178_18 : decode (cod 178) 18 = .ok (.if_icmp .ne 6, 3) := by decide +kernel
theorem d178_21 : decode (cod 178) 21 = .ok (.bipush (-4), 2) := by decide +kernel
theorem d178_23 : decode (cod 178) 23 = .ok (.ireturn, 1) := by decide +kernel
theorem d178_24 : decode (cod 178) 24 = .ok (.aload_n 0, 1) := by decide +kernel
theorem d178_25 : decode (cod 178) 25 = .ok (.sipush 2336, 3) := by decide +kernel
theorem d178_28 : decode (cod 178) 28 = .ok (.aload_n 0, 1) := by decide +kernel
theorem d178_29 : decode (cod 178) 29 = .ok (.getfield 13, 3) := by decide +kernel
theorem d178_32 : decode (cod 178) 32 = .ok (.bipush 8, 2) := by decide +kernel
theorem d178_34 : decode (cod 178) 34 = .ok (.iaload, 1) := by decide +kernel
theorem d178_35 : decode (cod 178) 35 = .ok (.iconst (-1), 1) := by decide +kernel
theorem d178_36 : decode (cod 178) 36 = .ok (.iconst (-1), 1) := by decide +kernel
theorem d178_37 : decode (cod 178) 37 = .ok (.invokevirtual 143, 3) := by decide +kernel
theorem d178_40 : decode (cod 178) 40 = .ok (.aload_n 0, 1) := by decide +kernel
theorem d178_41 : decode (cod 178) 41 = .ok (.getfield 13, 3) := by decide +kernel
theorem d178_44 : decode (cod 178) 44 = .ok (.bipush 8, 2) := by decide +kernel
theorem d178_46 : decode (cod 178) 46 = .ok (.iaload, 1) := by decide +kernel
theorem d178_47 : decode (cod 178) 47 = .ok (.istore_n 2, 1) := by decide +kernel
theorem d178_48 : decode (cod 178) 48 = .ok (.aload_n 0, 1) := by decide +kernel
theorem d178_49 : decode (cod 178) 49 = .ok (.getfield 13, 3) := by decide +kernel
theorem d178_52 : decode (cod 178) 52 = .ok (.bipush 8, 2) := by decide +kernel
theorem d178_54 : decode (cod 178) 54 = .ok (.iconst 0, 1) := by decide +kernel
theorem d178_55 : decode (cod 178) 55 = .ok (.iastore, 1) := by decide +kernel
theorem d178_56 : decode (cod 178) 56 = .ok (.aload_n 0, 1) := by decide +kernel
theorem d178_57 : decode (cod 178) 57 = .ok (.getfield 81, 3) := by decide +kernel
theorem d178_60 : decode (cod 178) 60 = .ok (.ifCond .eq 11, 3) := by decide +kernel
theorem d178_63 : decode (cod 178) 63 = .ok (.bipush (-10), 2) := by decide +kernel
theorem d178_65 : decode (cod 178) 65 = .ok (.aload_n 0, 1) := by decide +kernel
theorem d178_66 : decode (cod 178) 66 = .ok (.getfield 72, 3) := by decide +kernel
theorem d178_69 : decode (cod 178) 69 = .ok (.isub, 1) := by decide +kernel
theorem d178_70 : decode (cod 178) 70 = .ok (.ireturn, 1) := by decide +kernel
theorem d178_71 : decode (cod 178) 71 = .ok (.bipush 92, 2) := by decide +kernel
theorem d178_73 : decode (cod 178) 73 = .ok (.bipush 122, 2) := by decide +kernel
theorem d178_75 : decode (cod 178) 75 = .ok (.aload_n 0, 1) := by decide +kernel
theorem d178_76 : decode (cod 178) 76 = .ok (.getfield 13, 3) := by decide +kernel
theorem d178_79 : decode (cod 178) 79 = .ok (.iconst 1, 1) := by decide +kernel
theorem d178_80 : decode (cod 178) 80 = .ok (.iaload, 1) := by decide +kernel
theorem d178_81 : decode (cod 178) 81 = .ok (.imul, 1) := by decide +kernel
theorem d178_82 : decode (cod 178) 82 = .ok (.iadd, 1) := by decide +kernel
theorem d178_83 : decode (cod 178) 83 = .ok (.istore_n 3, 1) := by decide +kernel
theorem d178_84 : decode (cod 178) 84 = .ok (.aload_n 0, 1) := by decide +kernel
theorem d178_85 : decode (cod 178) 85 = .ok (.getfield 13, 3) := by decide +kernel
theorem d178_88 : decode (cod 178) 88 = .ok (.iload_n 3, 1) := by decide +kernel
theorem d178_89 : decode (cod 178) 89 = .ok (.iload_n 1, 1) := by decide +kernel
theorem d178_90 : decode (cod 178) 90 = .ok (.iastore, 1) := by decide +kernel
theorem d178_91 : decode (cod 178) 91 = .ok (.aload_n 0, 1) := by decide +kernel
theorem d178_92 : decode (cod 178) 92 = .ok (.getfield 13, 3) := by decide +kernel
theorem d178_95 : decode (cod 178) 95 = .ok (.iload_n 3, 1) := by decide +kernel
theorem d178_96 : decode (cod 178) 96 = .ok (.iconst 1, 1) := by decide +kernel
theorem d178_97 : decode (cod 178) 97 = .ok (.iadd, 1) := by decide +kernel
theorem d178_98 : decode (cod 178) 98 = .ok (.iload_n 2, 1) := by decide +kernel
theorem d178_99 : decode (cod 178) 99 = .ok (.iastore, 1) := by decide +kernel
theorem d178_100 : decode (cod 178) 100 = .ok (.iconst 0, 1) := by decide +kernel
theorem d178_101 : decode (cod 178) 101 = .ok (.istore 4, 2) := by decide +kernel
theorem d178_103 : decode (cod 178) 103 = .ok (.iload 4, 2) := by decide +kernel
theorem d178_105 : decode (cod 178) 105 = .ok (.iload_n 2, 1) := by decide +kernel
theorem d178_106 : decode (cod 178) 106 = .ok (.if_icmp .ge 31, 3) := by decide +kernel
theorem d178_109 : decode (cod 178) 109 = .ok (.aload_n 0, 1) := by decide +kernel
theorem d178_110 : decode (cod 178) 110 = .ok (.getfield 13, 3) := by decide +kernel
theorem d178_113 : decode (cod 178) 113 = .ok (.iload_n 3, 1) := by decide +kernel
theorem d178_114 : decode (cod 178) 114 = .ok (.iconst 2, 1) := by decide +kernel
theorem d178_115 : decode (cod 178) 115 = .ok (.iadd, 1) := by decide +kernel
theorem d178_116 : decode (cod 178) 116 = .ok (.iload 4, 2) := by decide +kernel
theorem d178_118 : decode (cod 178) 118 = .ok (.iadd, 1) := by decide +kernel
theorem d178_119 : decode (cod 178) 119 = .ok (.aload_n 0, 1) := by decide +kernel
theorem d178_120 : decode (cod 178) 120 = .ok (.getfield 13, 3) := by decide +kernel
theorem d178_123 : decode (cod 178) 123 = .ok (.sipush 2336, 3) := by decide +kernel
theorem d178_126 : decode (cod 178) 126 = .ok (.iload 4, 2) := by decide +kernel
theorem d178_128 : decode (cod 178) 128 = .ok (.iadd, 1) := by decide +kernel
theorem d178_129 : decode (cod 178) 129 = .ok (.iaload, 1) := by decide +kernel
theorem d178_130 : decode (cod 178) 130 = .ok (.iastore, 1) := by decide +kernel
theorem d178_131 : decode (cod 178) 131 = .ok (.iinc 4 1, 3) := by decide +kernel
theorem d178_134 : decode (cod 178) 134 = .ok (.goto (-31), 3) := by decide +kernel
theorem d178_137 : decode (cod 178) 137 = .ok (.aload_n 0, 1) := by decide +kernel
theorem d178_138 : decode (cod 178) 138 = .ok (.getfield 13, 3) := by decide +kernel
theorem d178_141 : decode (cod 178) 141 = .ok (.iconst 1, 1) := by decide +kernel
theorem d178_142 : decode (cod 178) 142 = .ok (.dup2, 1) := by decide +kernel
theorem d178_143 : decode (cod 178) 143 = .ok (.iaload, 1) := by decide +kernel
theorem d178_144 : decode (cod 178) 144 = .ok (.iconst 1, 1) := by decide +kernel
theorem d178_145 : decode (cod 178) 145 = .ok (.iadd, 1) := by decide +kernel
theorem d178_146 : decode (cod 178) 146 = .ok (.iastore, 1) := by decide +kernel
theorem d178_147 : decode (cod 178) 147 = .ok (.aload_n 0, 1) := by decide +kernel
theorem d178_148 : decode (cod 178) 148 = .ok (.getfield 13, 3) := by decide +kernel
theorem d178_151 : decode (cod 178) 151 = .ok (.iconst 1, 1) := by decide +kernel
theorem d178_152 : decode (cod 178) 152 = .ok (.iaload, 1) := by decide +kernel
theorem d178_153 : decode (cod 178) 153 = .ok (.iconst 1, 1) := by decide +kernel
theorem d178_154 : decode (cod 178) 154 = .ok (.isub, 1) := by decide +kernel
theorem d178_155 : decode (cod 178) 155 = .ok (.ireturn, 1) := by decide +kernel
theorem d179_0 : decode (cod 179) 0 = .ok (.iload_n 0, 1) := by decide +kernel
theorem d179_1 : decode (cod 179) 1 = .ok (.ifCond .ne 8, 3) := by decide +kernel
theorem d179_4 : decode (cod 179) 4 = .ok (.bipush 50, 2) := by decide +kernel
theorem d179_6 : decode (cod 179) 6 = .ok (.goto 51, 3) := by decide +kernel
theorem d179_9 : decode (cod 179) 9 = .ok (.iload_n 0, 1) := by decide +kernel
theorem d179_10 : decode (cod 179) 10 = .ok (.iconst 1, 1) := by decide +kernel
theorem d179_11 : decode (cod 179) 11 = .ok (.if_icmp .ne 8, 3) := by decide +kernel
theorem d179_14 : decode (cod 179) 14 = .ok (.bipush 10, 2) := by decide +kernel
theorem d179_16 : decode (cod 179) 16 = .ok (.goto 41, 3) := by decide +kernel
theorem d179_19 : decode (cod 179) 19 = .ok (.iload_n 0, 1) := by decide +kernel
theorem d179_20 : decode (cod 179) 20 = .ok (.iconst 2, 1) := by decide +kernel
theorem d179_21 : decode (cod 179) 21 = .ok (.if_icmp .ne 7, 3) := by decide +kernel
theorem d179_24 : decode (cod 179) 24 = .ok (.iconst 2, 1) := by decide +kernel
theorem d179_25 : decode (cod 179) 25 = .ok (.goto 32, 3) := by decide +kernel
theorem d179_28 : decode (cod 179) 28 = .ok (.iload_n 0, 1) := by decide +kernel
theorem d179_29 : decode (cod 179) 29 = .ok (.iconst 3, 1) := by decide +kernel
theorem d179_30 : decode (cod 179) 30 = .ok (.if_icmp .ne 7, 3) := by decide +kernel
theorem d179_33 : decode (cod 179) 33 = .ok (.iconst 5, 1) := by decide +kernel
theorem d179_34 : decode (cod 179) 34 = .ok (.goto 23, 3) := by decide +kernel
theorem d179_37 : decode (cod 179) 37 = .ok (.iload_n 0, 1) := by decide +kernel
theorem d179_38 : decode (cod 179) 38 = .ok (.iconst 4, 1) := by decide +kernel
theorem d179_39 : decode (cod 179) 39 = .ok (.if_icmp .ne 7, 3) := by decide +kernel
theorem d179_42 : decode (cod 179) 42 = .ok (.iconst 2, 1) := by decide +kernel
theorem d179_43 : decode (cod 179) 43 = .ok (.goto 14, 3) := by decide +kernel
theorem d179_46 : decode (cod 179) 46 = .ok (.iload_n 0, 1) := by decide +kernel
theorem d179_47 : decode (cod 179) 47 = .ok (.iconst 5, 1) := by decide +kernel
theorem d179_48 : decode (cod 179) 48 = .ok (.if_icmp .ne 7, 3) := by decide +kernel
theorem d179_51 : decode (cod 179) 51 = .ok (.iconst 0, 1) := by decide +kernel
theorem d179_52 : decode (cod 179) 52 = .ok (.goto 5, 3) := by decide +kernel
theorem d179_55 : decode (cod 179) 55 = .ok (.bipush 40, 2) := by decide +kernel
theorem d179_57 : decode (cod 179) 57 = .ok (.ireturn, 1) := by decide +kernel
theorem d180_0 : decode (cod 180) 0 = .ok (.iconst (-1), 1) := by decide +kernel
theorem d180_1 : decode (cod 180) 1 = .ok (.istore_n 3, 1) := by decide +kernel
theorem d180_2 : decode (cod 180) 2 = .ok (.iconst 0, 1) := by decide +kernel
theorem d180_3 : decode (cod 180) 3 = .ok (.istore 4, 2) := by decide +kernel
theorem d180_5 : decode (cod 180) 5 = .ok (.iload 4, 2) := by decide +kernel
theorem d180_7 : decode (cod 180) 7 = .ok (.aload_n 0, 1) := by decide +kernel
theorem d180_8 : decode (cod 180) 8 = .ok (.getfield 13, 3) := by decide +kernel
theorem d180_11 : decode (cod 180) 11 = .ok (.iconst 1, 1) := by decide +kernel
theorem d180_12 : decode (cod 180) 12 = .ok (.iaload, 1) := by decide +kernel
theorem d180_13 : decode (cod 180) 13 = .ok (.if_icmp .ge 112, 3) := by decide +kernel
theorem d180_16 : decode (cod 180) 16 = .ok (.aload_n 0, 1) := by decide +kernel
theorem d180_17 : decode (cod 180) 17 = .ok (.getfield 13, 3) := by decide +kernel
theorem d180_20 : decode (cod 180) 20 = .ok (.bipush 92, 2) := by decide +kernel
theorem d180_22 : decode (cod 180) 22 = .ok (.bipush 122, 2) := by decide +kernel
theorem d180_24 : decode (cod 180) 24 = .ok (.iload 4, 2) := by decide +kernel
theorem d180_26 : decode (cod 180) 26 = .ok (.imul, 1) := by decide +kernel
theorem d180_27 : decode (cod 180) 27 = .ok (.iadd, 1) := by decide +kernel
theorem d180_28 : decode (cod 180) 28 = .ok (.iaload, 1) := by decide +kernel
theorem d180_29 : decode (cod 180) 29 = .ok (.istore 5, 2) := by decide +kernel
theorem d180_31 : decode (cod 180) 31 = .ok (.iload_n 2, 1) := by decide +kernel
theorem d180_32 : decode (cod 180) 32 = .ok (.iconst (-1), 1) := by decide +kernel
theorem d180_33 : decode (cod 180) 33 = .ok (.if_icmp .eq 43, 3) := by decide +kernel
theorem d180_36 : decode (cod 180) 36 = .ok (.iload 5, 2) := by decide +kernel
theorem d180_38 : decode (cod 180) 38 = .ok (.aload_n 0, 1) := by decide +kernel
theorem d180_39 : decode (cod 180) 39 = .ok (.getfield 13, 3) := by decide +kernel
theorem d180_42 : decode (cod 180) 42 = .ok (.bipush 92, 2) := by decide +kernel
theorem d180_44 : decode (cod 180) 44 = .ok (.bipush 122, 2) := by decide +kernel
theorem d180_46 : decode (cod 180) 46 = .ok (.iload_n 2, 1) := by decide +kernel
theorem d180_47 : decode (cod 180) 47 = .ok (.imul, 1) := by decide +kernel
theorem d180_48 : decode (cod 180) 48 = .ok (.iadd, 1) := by decide +kernel
theorem d180_49 : decode (cod 180) 49 = .ok (.iaload, 1) := by decide +kernel
theorem d180_50 : decode (cod 180) 50 = .ok (.if_icmp .lt 26, 3) := by decide +kernel
theorem d180_53 : decode (cod 180) 53 = .ok (.iload 5, 2) := by decide +kernel
theorem d180_55 : decode (cod 180) 55 = .ok (.aload_n 0, 1) := by decide +kernel
theorem d180_56 : decode (cod 180) 56 = .ok (.getfield 13, 3) := by decide +kernel
theorem d180_59 : decode (cod 180) 59 = .ok (.bipush 92, 2) := by decide +kernel
theorem d180_61 : decode (cod 180) 61 = .ok (.bipush 122, 2) := by decide +kernel
theorem d180_63 : decode (cod 180) 63 = .ok (.iload_n 2, 1) := by decide +kernel
theorem d180_64 : decode (cod 180) 64 = .ok (.imul, 1) := by decide +kernel
theorem d180_65 : decode (cod 180) 65 = .ok (.iadd, 1) := by decide +kernel
theorem d180_66 : decode (cod 180) 66 = .ok (.iaload, 1) := by decide +kernel
theorem d180_67 : decode (cod 180) 67 = .ok (.if_icmp .ne 13, 3) := by decide +kernel
theorem d180_70 : decode (cod 180) 70 = .ok (.iload 4, 2) := by decide +kernel
theorem d180_72 : decode (cod 180) 72 = .ok (.iload_n 2, 1) := by decide +kernel
theorem d180_73 : decode (cod 180) 73 = .ok (.if_icmp .ge 7, 3) := by decide +kernel
theorem d180_76 : decode (cod 180) 76 = .ok (.iconst 1, 1) := by decide +kernel
theorem d180_77 : decode (cod 180) 77 = .ok (.goto 4, 3) := by decide +kernel
theorem d180_80 : decode (cod 180) 80 = .ok (.iconst 0, 1) := by decide +kernel
theorem d180_81 : decode (cod 180) 81 = .ok (.istore 6, 2) := by decide +kernel
theorem d180_83 : decode (cod 180) 83 = .ok (.iload 5, 2) := by decide +kernel
theorem d180_85 : decode (cod 180) 85 = .ok (.iload_n 1, 1) := by decide +kernel
theorem d180_86 : decode (cod 180) 86 = .ok (.if_icmp .gt 33, 3) := by decide +kernel
theorem d180_89 : decode (cod 180) 89 = .ok (.iload 6, 2) := by decide +kernel
theorem d180_91 : decode (cod 180) 91 = .ok (.ifCond .eq 28, 3) := by decide +kernel
theorem d180_94 : decode (cod 180) 94 = .ok (.iload_n 3, 1) := by decide +kernel
theorem d180_95 : decode (cod 180) 95 = .ok (.iconst (-1), 1) := by decide +kernel
theorem d180_96 : decode (cod 180) 96 = .ok (.if_icmp .eq 20, 3) := by decide +kernel
theorem d180_99 : decode (cod 180) 99 = .ok (.iload 5, 2) := by decide +kernel
theorem d180_101 : decode (cod 180) 101 = .ok (.aload_n 0, 1) := by decide +kernel
theorem d180_102 : decode (cod 180) 102 = .ok (.getfield 13, 3) := by decide +kernel
theorem d180_105 : decode (cod 180) 105 = .ok (.bipush 92, 2) := by decide +kernel
theorem d180_107 : decode (cod 180) 107 = .ok (.bipush 122, 2) := by decide +kernel
theorem d180_109 : decode (cod 180) 109 = .ok (.iload_n 3, 1) := by decide +kernel
theorem d180_110 : decode (cod 180) 110 = .ok (.imul, 1) := by decide +kernel
theorem d180_111 : decode (cod 180) 111 = .ok (.iadd, 1) := by decide +kernel
theorem d180_112 : decode (cod 180) 112 = .ok (.iaload, 1) := by decide +kernel
theorem d180_113 : decode (cod 180) 113 = .ok (.if_icmp .lt 6, 3) := by decide +kernel
theorem d180_116 : decode (cod 180) 116 = .ok (.iload 4, 2) := by decide +kernel
theorem d180_118 : decode (cod 180) 118 = .ok (.istore_n 3, 1) := by decide +kernel
theorem d180_119 : decode (cod 180) 119 = .ok (.iinc 4 1, 3) := by decide +kernel
theorem d180_122 : decode (cod 180) 122 = .ok (.goto (-117), 3) := by decide +kernel
theorem d180_125 : decode (cod 180) 125 = .ok (.iload_n 3, 1) := by decide +kernel
theorem d180_126 : decode (cod 180) 126 = .ok (.ireturn, 1) := by decide +kernel
theorem d181_0 : decode (cod 181) 0 = .ok (.aload_n 0, 1) := by decide +kernel
theorem d181_1 : decode (cod 181) 1 = .ok (.iload_n 3, 1) := by decide +kernel
theorem d181_2 : decode (cod 181) 2 = .ok (.iconst (-1), 1) := by decide +kernel
theorem d181_3 : decode (cod 181) 3 = .ok (.invokevirtual 147, 3) := by decide +kernel
theorem d181_6 : decode (cod 181) 6 = .ok (.istore 4, 2) := by decide +kernel
theorem d181_8 : decode (cod 181) 8 = .ok (.iload 4, 2) := by decide +kernel
theorem d181_10 : decode (cod 181) 10 = .ok (.iconst (-1), 1) := by decide +kernel
theorem d181_11 : decode (cod 181) 11 = .ok (.if_icmp .eq 56, 3) := by decide +kernel
theorem d181_14 : decode (cod 181) 14 = .ok (.aload_n 0, 1) := by decide +kernel
theorem d181_15 : decode (cod 181) 15 = .ok (.bipush 92, 2) := by decide +kernel
theorem d181_17 : decode (cod 181) 17 = .ok (.bipush 122, 2) := by decide +kernel
theorem d181_19 : decode (cod 181) 19 = .ok (.iload 4, 2) := by decide +kernel
theorem d181_21 : decode (cod 181) 21 = .ok (.imul, 1) := by decide +kernel
theorem d181_22 : decode (cod 181) 22 = .ok (.iadd, 1) := by decide +kernel
theorem d181_23 : decode (cod 181) 23 = .ok (.iconst 2, 1) := by decide +kernel
theorem d181_24 : decode (cod 181) 24 = .ok (.iadd, 1) := by decide +kernel
theorem d181_25 : decode (cod 181) 25 = .ok (.aload_n 0, 1) := by decide +kernel
theorem d181_26 : decode (cod 181) 26 = .ok (.getfield 13, 3) := by decide +kernel
theorem d181_29 : decode (cod 181) 29 = .ok (.bipush 92, 2) := by decide +kernel
theorem d181_31 : decode (cod 181) 31 = .ok (.bipush 122, 2) := by decide +kernel
theorem d181_33 : decode (cod 181) 33 = .ok (.iload 4, 2) := by decide +kernel
theorem d181_35 : decode (cod 181) 35 = .ok (.imul, 1) := by decide +kernel
theorem d181_36 : decode (cod 181) 36 = .ok (.iadd, 1) := by decide +kernel
theorem d181_37 : decode (cod 181) 37 = .ok (.iconst 1, 1) := by decide +kernel
theorem d181_38 : decode (cod 181) 38 = .ok (.iadd, 1) := by decide +kernel
theorem d181_39 : decode (cod 181) 39 = .ok (.iaload, 1) := by decide +kernel
theorem d181_40 : decode (cod 181) 40 = .ok (.iload_n 1, 1) := by decide +kernel
theorem d181_41 : decode (cod 181) 41 = .ok (.iload_n 2, 1) := by decide +kernel
theorem d181_42 : decode (cod 181) 42 = .ok (.invokevirtual 143, 3) := by decide +kernel
theorem d181_45 : decode (cod 181) 45 = .ok (.aload_n 0, 1) := by decide +kernel
theorem d181_46 : decode (cod 181) 46 = .ok (.getfield 126, 3) := by decide +kernel
theorem d181_49 : decode (cod 181) 49 = .ok (.ifCond .eq 6, 3) := by decide +kernel
theorem d181_52 : decode (cod 181) 52 = .ok (.iload 4, 2) := by decide +kernel
theorem d181_54 : decode (cod 181) 54 = .ok (.ireturn, 1) := by decide +kernel
theorem d181_55 : decode (cod 181) 55 = .ok (.aload_n 0, 1) := by decide +kernel
theorem d181_56 : decode (cod 181) 56 = .ok (.iload_n 3, 1) := by decide +kernel
theorem d181_57 : decode (cod 181) 57 = .ok (.iload 4, 2) := by decide +kernel
theorem d181_59 : decode (cod 181) 59 = .ok (.invokevirtual 147, 3) := by decide +kernel
theorem d181_62 : decode (cod 181) 62 = .ok (.istore 4, 2) := by decide +kernel
theorem d181_64 : decode (cod 181) 64 = .ok (.goto (-56), 3) := by decide +kernel
theorem d181_67 : decode (cod 181) 67 = .ok (.aload_n 0, 1) := by decide +kernel
theorem d181_68 : decode (cod 181) 68 = .ok (.iload_n 1, 1) := by decide +kernel
theorem d181_69 : decode (cod 181) 69 = .ok (.invokestatic 150, 3) := by decide +kernel
theorem d181_72 : decode (cod 181) 72 = .ok (.putfield 132, 3) := by decide +kernel
theorem d181_75 : decode (cod 181) 75 = .ok (.iconst (-1), 1) := by decide +kernel
theorem d181_76 : decode (cod 181) 76 = .ok (.ireturn, 1) := by decide +kernel
theorem d182_0 : decode (cod 182) 0 = .ok (.aload_n 0, 1) := by decide +kernel
theorem d182_1 : decode (cod 182) 1 = .ok (.iload_n 1, 1) := by decide +kernel
theorem d182_2 : decode (cod 182) 2 = .ok (.iload_n 2, 1) := by decide +kernel
theorem d182_3 : decode (cod 182) 3 = .ok (.iload_n 3, 1) := by decide +kernel
theorem d182_4 : decode (cod 182) 4 = .ok (.invokevirtual 153, 3) := by decide +kernel
theorem d182_7 : decode (cod 182) 7 = .ok (.istore 4, 2) := by decide +kernel
theorem d182_9 : decode (cod 182) 9 = .ok (.aload_n 0, 1) := by decide +kernel
theorem d182_10 : decode (cod 182) 10 = .ok (.getfield 132, 3) := by decide +kernel
theorem d182_13 : decode (cod 182) 13 = .ok (.ireturn, 1) := by decide +kernel
theorem d183_0 : decode (cod 183) 0 = .ok (.iload_n 1, 1) := by decide +kernel
theorem d183_1 : decode (cod 183) 1 = .ok (.iconst 0, 1) := by decide +kernel
theorem d183_2 : decode (cod 183) 2 = .ok (.bipush 6, 2) := by decide +kernel
theorem d183_4 : decode (cod 183) 4 = .ok (.invokestatic 36, 3) := by decide +kernel
theorem d183_7 : decode (cod 183) 7 = .ok (.ifCond .eq 24, 3) := by decide +kernel
theorem d183_10 : decode (cod 183) 10 = .ok (.iload_n 1, 1) := by decide +kernel
theorem d183_11 : decode (cod 183) 11 = .ok (.ifCond .eq 8, 3) := by decide +kernel
theorem d183_14 : decode (cod 183) 14 = .ok (.iload_n 1, 1) := by decide +kernel
theorem d183_15 : decode (cod 183) 15 = .ok (.iconst 5, 1) := by decide +kernel
theorem d183_16 : decode (cod 183) 16 = .ok (.if_icmp .ne 11, 3) := by decide +kernel
theorem d183_19 : decode (cod 183) 19 = .ok (.aload_n 0, 1) := by decide +kernel
theorem d183_20 : decode (cod 183) 20 = .ok (.iload_n 2, 1) := by decide +kernel
theorem d183_21 : decode (cod 183) 21 = .ok (.invokevirtual 157, 3) := by decide +kernel
theorem d183_24 : decode (cod 183) 24 = .ok (.ifCond .eq 7, 3) := by decide +kernel
theorem d183_27 : decode (cod 183) 27 = .ok (.iconst 1, 1) := by decide +kernel
theorem d183_28 : decode (cod 183) 28 = .ok (.goto 4, 3) := by decide +kernel
theorem d183_31 : decode (cod 183) 31 = .ok (.iconst 0, 1) := by decide +kernel
theorem d183_32 : decode (cod 183) 32 = .ok (.ireturn, 1) := by decide +kernel
theorem d184_0 : decode (cod 184) 0 = .ok (.aload_n 0, 1) := by decide +kernel
theorem d184_1 : decode (cod 184) 1 = .ok (.iload_n 1, 1) := by decide +kernel
theorem d184_2 : decode (cod 184) 2 = .ok (.iload_n 2, 1) := by decide +kernel
theorem d184_3 : decode (cod 184) 3 = .ok (.invokevirtual 160, 3) := by decide +kernel
theorem d184_6 : decode (cod 184) 6 = .ok (.ifCond .ne 5, 3) := by decide +kernel
theorem d184_9 : decode (cod 184) 9 = .ok (.iconst (-1), 1) := by decide +kernel
theorem d184_10 : decode (cod 184) 10 = .ok (.ireturn, 1) := by decide +kernel
theorem d184_11 : decode (cod 184) 11 = .ok (.iload_n 3, 1) := by decide +kernel
theorem d184_12 : decode (cod 184) 12 = .ok (.invokestatic 140, 3) := by decide +kernel
theorem d184_15 : decode (cod 184) 15 = .ok (.ifCond .eq 26, 3) := by decide +kernel
theorem d184_18 : decode (cod 184) 18 = .ok (.aload_n 0, 1) := by decide +kernel
theorem d184_19 : decode (cod 184) 19 = .ok (.iload_n 1, 1) := by decide +kernel
theorem d184_20 : decode (cod 184) 20 = .ok (.iload_n 1, 1) := by decide +kernel
theorem d184_21 : decode (cod 184) 21 = .ok (.ifCond .eq 8, 3) := by decide +kernel
theorem d184_24 : decode (cod 184) 24 = .ok (.iload_n 1, 1) := by decide +kernel
theorem d184_25 : decode (cod 184) 25 = .ok (.iconst 5, 1) := by decide +kernel
theorem d184_26 : decode (cod 184) 26 = .ok (.if_icmp .ne 7, 3) := by decide +kernel
theorem d184_29 : decode (cod 184) 29 = .ok (.iload_n 2, 1) := by decide +kernel
theorem d184_30 : decode (cod 184) 30 = .ok (.goto 4, 3) := by decide +kernel
theorem d184_33 : decode (cod 184) 33 = .ok (.iconst (-1), 1) := by decide +kernel
theorem d184_34 : decode (cod 184) 34 = .ok (.iload_n 3, 1) := by decide +kernel
theorem d184_35 : decode (cod 184) 35 = .ok (.invokevirtual 164, 3) := by decide +kernel
theorem d184_38 : decode (cod 184) 38 = .ok (.goto 5, 3) := by decide +kernel
theorem d184_41 : decode (cod 184) 41 = .ok (.bipush (-2), 2) := by decide +kernel
theorem d184_43 : decode (cod 184) 43 = .ok (.ireturn, 1) := by decide +kernel
theorem d185_0 : decode (cod 185) 0 = .ok (.aload_n 0, 1) := by decide +kernel
theorem d185_1 : decode (cod 185) 1 = .ok (.iload_n 1, 1) := by decide +kernel
theorem d185_2 : decode (cod 185) 2 = .ok (.iload_n 2, 1) := by decide +kernel
theorem d185_3 : decode (cod 185) 3 = .ok (.invokevirtual 160, 3) := by decide +kernel
theorem d185_6 : decode (cod 185) 6 = .ok (.ifCond .ne 5, 3) := by decide +kernel
theorem d185_9 : decode (cod 185) 9 = .ok (.iconst (-1), 1) := by decide +kernel
theorem d185_10 : decode (cod 185) 10 = .ok (.ireturn, 1) := by decide +kernel
theorem d185_11 : decode (cod 185) 11 = .ok (.iload_n 3, 1) := by decide +kernel
theorem d185_12 : decode (cod 185) 12 = .ok (.invokestatic 140, 3) := by decide +kernel
theorem d185_15 : decode (cod 185) 15 = .ok (.ifCond .ne 6, 3) := by decide +kernel
theorem d185_18 : decode (cod 185) 18 = .ok (.bipush (-2), 2) := by decide +kernel
theorem d185_20 : decode (cod 185) 20 = .ok (.ireturn, 1) := by decide +kernel
theorem d185_21 : decode (cod 185) 21 = .ok (.aload_n 0, 1) := by decide +kernel
theorem d185_22 : decode (cod 185) 22 = .ok (.iload_n 1, 1) := by decide +kernel
theorem d185_23 : decode (cod 185) 23 = .ok (.iload_n 1, 1) := by decide +kernel
theorem d185_24 : decode (cod 185) 24 = .ok (.ifCond .eq 8, 3) := by decide +kernel
theorem d185_27 : decode (cod 185) 27 = .ok (.iload_n 1, 1) := by decide +kernel
theorem d185_28 : decode (cod 185) 28 = .ok (.iconst 5, 1) := by decide +kernel
theorem d185_29 : decode (cod 185) 29 = .ok (.if_icmp .ne 7, 3) := by decide +kernel
theorem d185_32 : decode (cod 185) 32 = .ok (.iload_n 2, 1) := by decide +kernel
theorem d185_33 : decode (cod 185) 33 = .ok (.goto 4, 3) := by decide +kernel
theorem d185_36 : decode (cod 185) 36 = .ok (.iconst (-1), 1) := by decide +kernel
theorem d185_37 : decode (cod 185) 37 = .ok (.iload_n 3, 1) := by decide +kernel
theorem d185_38 : decode (cod 185) 38 = .ok (.invokevirtual 153, 3) := by decide +kernel
theorem d185_41 : decode (cod 185) 41 = .ok (.istore 4, 2) := by decide +kernel
theorem d185_43 : decode (cod 185) 43 = .ok (.iload 4, 2) := by decide +kernel
theorem d185_45 : decode (cod 185) 45 = .ok (.iconst (-1), 1) := by decide +kernel
theorem d185_46 : decode (cod 185) 46 = .ok (.if_icmp .ne 8, 3) := by decide +kernel
theorem d185_49 : decode (cod 185) 49 = .ok (.bipush (-5), 2) := by decide +kernel
theorem d185_51 : decode (cod 185) 51 = .ok (.goto 13, 3) := by decide +kernel
theorem d185_54 : decode (cod 185) 54 = .ok (.bipush 100, 2) := by decide +kernel
theorem d185_56 : decode (cod 185) 56 = .ok (.iload 4, 2) := by decide +kernel
theorem d185_58 : decode (cod 185) 58 = .ok (.imul, 1) := by decide +kernel
theorem d185_59 : decode (cod 185) 59 = .ok (.aload_n 0, 1) := by decide +kernel
theorem d185_60 : decode (cod 185) 60 = .ok (.getfield 135, 3) := by decide +kernel
theorem d185_63 : decode (cod 185) 63 = .ok (.iadd, 1) := by decide +kernel
theorem d185_64 : decode (cod 185) 64 = .ok (.ireturn, 1) := by decide +kernel
theorem d186_0 : decode (cod 186) 0 = .ok (.iload 4, 2) := by decide +kernel
theorem d186_2 : decode (cod 186) 2 = .ok (.iconst 1, 1) := by decide +kernel
theorem d186_3 : decode (cod 186) 3 = .ok (.bipush 20, 2) := by decide +kernel
theorem d186_5 : decode (cod 186) 5 = .ok (.invokestatic 36, 3) := by decide +kernel
theorem d186_8 : decode (cod 186) 8 = .ok (.ifCond .eq 18, 3) := by decide +kernel
theorem d186_11 : decode (cod 186) 11 = .ok (.iload 4, 2) := by decide +kernel
theorem d186_13 : decode (cod 186) 13 = .ok (.aload_n 0, 1) := by decide +kernel
theorem d186_14 : decode (cod 186) 14 = .ok (.iconst 3, 1) := by decide +kernel
theorem d186_15 : decode (cod 186) 15 = .ok (.iconst (-1), 1) := by decide +kernel
theorem d186_16 : decode (cod 186) 16 = .ok (.aload_n 0, 1) := by decide +kernel
theorem d186_17 : decode (cod 186) 17 = .ok (.invokevirtual 44, 3) := by decide +kernel
theorem d186_20 : decode (cod 186) 20 = .ok (.invokevirtual 164, 3) := by decide +kernel
theorem d186_23 : decode (cod 186) 23 = .ok (.if_icmp .le 6, 3) := by decide +kernel
theorem d186_26 : decode (cod 186) 26 = .ok (.bipush (-2), 2) := by decide +kernel
theorem d186_28 : decode (cod 186) 28 = .ok (.ireturn, 1) := by decide +kernel
theorem d186_29 : decode (cod 186) 29 = .ok (.aload_n 0, 1) := by decide +kernel
theorem d186_30 : decode (cod 186) 30 = .ok (.getfield 13, 3) := by decide +kernel
theorem d186_33 : decode (cod 186) 33 = .ok (.iconst 2, 1) := by decide +kernel
theorem d186_34 : decode (cod 186) 34 = .ok (.iaload, 1) := by decide +kernel
theorem d186_35 : decode (cod 186) 35 = .ok (.bipush 60, 2) := by decide +kernel
theorem d186_37 : decode (cod 186) 37 = .ok (.if_icmp .ne 6, 3) := by decide +kernel
theorem d186_40 : decode (cod 186) 40 = .ok (.bipush (-4), 2) := by decide +kernel
theorem d186_42 : decode (cod 186) 42 = .ok (.ireturn, 1) := by decide +kernel
theorem d186_43 : decode (cod 186) 43 = .ok (.sipush 1312, 3) := by decide +kernel
theorem d186_46 : decode (cod 186) 46 = .ok (.bipush 8, 2) := by decide +kernel
theorem d186_48 : decode (cod 186) 48 = .ok (.aload_n 0, 1) := by decide +kernel
theorem d186_49 : decode (cod 186) 49 = .ok (.getfield 13, 3) := by decide +kernel
theorem d186_52 : decode (cod 186) 52 = .ok (.iconst 2, 1) := by decide +kernel
theorem d186_53 : decode (cod 186) 53 = .ok (.iaload, 1) := by decide +kernel
theorem d186_54 : decode (cod 186) 54 = .ok (.imul, 1) := by decide +kernel
theorem d186_55 : decode (cod 186) 55 = .ok (.iadd, 1) := by decide +kernel
theorem d186_56 : decode (cod 186) 56 = .ok (.istore 5, 2) := by decide +kernel
theorem d186_58 : decode (cod 186) 58 = .ok (.aload_n 0, 1) := by decide +kernel
theorem d186_59 : decode (cod 186) 59 = .ok (.getfield 13, 3) := by decide +kernel
theorem d186_62 : decode (cod 186) 62 = .ok (.iload 5, 2) := by decide +kernel
theorem d186_64 : decode (cod 186) 64 = .ok (.iconst 0, 1) := by decide +kernel
theorem d186_65 : decode (cod 186) 65 = .ok (.iadd, 1) := by decide +kernel
theorem d186_66 : decode (cod 186) 66 = .ok (.iload_n 1, 1) := by decide +kernel
theorem d186_67 : decode (cod 186) 67 = .ok (.iastore, 1) := by decide +kernel
theorem d186_68 : decode (cod 186) 68 = .ok (.aload_n 0, 1) := by decide +kernel
theorem d186_69 : decode (cod 186) 69 = .ok (.getfield 13, 3) := by decide +kernel
theorem d186_72 : decode (cod 186) 72 = .ok (.iload 5, 2) := by decide +kernel
theorem d186_74 : decode (cod 186) 74 = .ok (.iconst 1, 1) := by decide +kernel
theorem d186_75 : decode (cod 186) 75 = .ok (.iadd, 1) := by decide +kernel
theorem d186_76 : decode (cod 186) 76 = .ok (.iload_n 2, 1) := by decide +kernel
theorem d186_77 : decode (cod 186) 77 = .ok (.iastore, 1) := by decide +kernel
theorem d186_78 : decode (cod 186) 78 = .ok (.aload_n 0, 1) := by decide +kernel
theorem d186_79 : decode (cod 186) 79 = .ok (.getfield 13, 3) := by decide +kernel
theorem d186_82 : decode (cod 186) 82 = .ok (.iload 5, 2) := by decide +kernel
theorem d186_84 : decode (cod 186) 84 = .ok (.iconst 2, 1) := by decide +kernel
theorem d186_85 : decode (cod 186) 85 = .ok (.iadd, 1) := by decide +kernel
theorem d186_86 : decode (cod 186) 86 = .ok (.iload_n 3, 1) := by decide +kernel
theorem d186_87 : decode (cod 186) 87 = .ok (.iastore, 1) := by decide +kernel
theorem d186_88 : decode (cod 186) 88 = .ok (.aload_n 0, 1) := by decide +kernel
theorem d186_89 : decode (cod 186) 89 = .ok (.getfield 13, 3) := by decide +kernel
theorem d186_92 : decode (cod 186) 92 = .ok (.iload 5, 2) := by decide +kernel
theorem d186_94 : decode (cod 186) 94 = .ok (.iconst 3, 1) := by decide +kernel
theorem d186_95 : decode (cod 186) 95 = .ok (.iadd, 1) := by decide +kernel
theorem d186_96 : decode (cod 186) 96 = .ok (.iload 4, 2) := by decide +kernel
theorem d186_98 : decode (cod 186) 98 = .ok (.iastore, 1) := by decide +kernel
theorem d186_99 : decode (cod 186) 99 = .ok (.aload_n 0, 1) := by decide +kernel
theorem d186_100 : decode (cod 186) 100 = .ok (.getfield 13, 3) := by decide +kernel
theorem d186_103 : decode (cod 186) 103 = .ok (.iload 5, 2) := by decide +kernel
theorem d186_105 : decode (cod 186) 105 = .ok (.iconst 4, 1) := by decide +kernel
theorem d186_106 : decode (cod 186) 106 = .ok (.iadd, 1) := by decide +kernel
theorem d186_107 : decode (cod 186) 107 = .ok (.aload_n 0, 1) := by decide +kernel
theorem d186_108 : decode (cod 186) 108 = .ok (.getfield 13, 3) := by decide +kernel
theorem d186_111 : decode (cod 186) 111 = .ok (.iconst 3, 1) := by decide +kernel
theorem d186_112 : decode (cod 186) 112 = .ok (.iaload, 1) := by decide +kernel
theorem d186_113 : decode (cod 186) 113 = .ok (.iastore, 1) := by decide +kernel
theorem d186_114 : decode (cod 186) 114 = .ok (.aload_n 0, 1) := by decide +kernel
theorem d186_115 : decode (cod 186) 115 = .ok (.getfield 13, 3) := by decide +kernel
theorem d186_118 : decode (cod 186) 118 = .ok (.iload 5, 2) := by decide +kernel
theorem d186_120 : decode (cod 186) 120 = .ok (.iconst 5, 1) := by decide +kernel
theorem d186_121 : decode (cod 186) 121 = .ok (.iadd, 1) := by decide +kernel
theorem d186_122 : decode (cod 186) 122 = .ok (.iconst 0, 1) := by decide +kernel
theorem d186_123 : decode (cod 186) 123 = .ok (.iastore, 1) := by decide +kernel
theorem d186_124 : decode (cod 186) 124 = .ok (.aload_n 0, 1) := by decide +kernel
theorem d186_125 : decode (cod 186) 125 = .ok (.getfield 13, 3) := by decide +kernel
theorem d186_128 : decode (cod 186) 128 = .ok (.iload 5, 2) := by decide +kernel
theorem d186_130 : decode (cod 186) 130 = .ok (.bipush 6, 2) := by decide +kernel
theorem d186_132 : decode (cod 186) 132 = .ok (.iadd, 1) := by decide +kernel
theorem d186_133 : decode (cod 186) 133 = .ok (.iconst (-1), 1) := by decide +kernel
theorem d186_134 : decode (cod 186) 134 = .ok (.iastore, 1) := by decide +kernel
theorem d186_135 : decode (cod 186) 135 = .ok (.aload_n 0, 1) := by decide +kernel
theorem d186_136 : decode (cod 186) 136 = .ok (.getfield 13, 3) := by decide +kernel
theorem d186_139 : decode (cod 186) 139 = .ok (.iload 5, 2) := by decide +kernel
theorem d186_141 : decode (cod 186) 141 = .ok (.bipush 7, 2) := by decide +kernel
theorem d186_143 : decode (cod 186) 143 = .ok (.iadd, 1) := by decide +kernel
theorem d186_144 : decode (cod 186) 144 = .ok (.iconst 0, 1) := by decide +kernel
theorem d186_145 : decode (cod 186) 145 = .ok (.iastore, 1) := by decide +kernel
theorem d186_146 : decode (cod 186) 146 = .ok (.aload_n 0, 1) := by decide +kernel
theorem d186_147 : decode (cod 186) 147 = .ok (.getfield 13, 3) := by decide +kernel
theorem d186_150 : decode (cod 186) 150 = .ok (.iconst 2, 1) := by decide +kernel
theorem d186_151 : decode (cod 186) 151 = .ok (.dup2, 1) := by decide +kernel
theorem d186_152 : decode (cod 186) 152 = .ok (.iaload, 1) := by decide +kernel
theorem d186_153 : decode (cod 186) 153 = .ok (.iconst 1, 1) := by decide +kernel
theorem d186_154 : decode (cod 186) 154 = .ok (.iadd, 1) := by decide +kernel
theorem d186_155 : decode (cod 186) 155 = .ok (.iastore, 1) := by decide +kernel
theorem d186_156 : decode (cod 186) 156 = .ok (.aload_n 0, 1) := by decide +kernel
theorem d186_157 : decode (cod 186) 157 = .ok (.getfield 13, 3) := by decide +kernel
theorem d186_160 : decode (cod 186) 160 = .ok (.iconst 2, 1) := by decide +kernel
theorem d186_161 : decode (cod 186) 161 = .ok (.iaload, 1) := by decide +kernel
theorem d186_162 : decode (cod 186) 162 = .ok (.iconst 1, 1) := by decide +kernel
theorem d186_163 : decode (cod 186) 163 = .ok (.isub, 1) := by decide +kernel
theorem d186_164 : decode (cod 186) 164 = .ok (.ireturn, 1) := by decide +kernel
theorem d187_0 : decode (cod 187) 0 = .ok (.aload_n 0, 1) := by decide +kernel
theorem d187_1 : decode (cod 187) 1 = .ok (.iload_n 1, 1) := by decide +kernel
theorem d187_2 : decode (cod 187) 2 = .ok (.invokevirtual 48, 3) := by decide +kernel
theorem d187_5 : decode (cod 187) 5 = .ok (.ifCond .eq 11, 3) := by decide +kernel
theorem d187_8 : decode (cod 187) 8 = .ok (.aload_n 0, 1) := by decide +kernel
theorem d187_9 : decode (cod 187) 9 = .ok (.iload_n 2, 1) := by decide +kernel
theorem d187_10 : decode (cod 187) 10 = .ok (.invokevirtual 48, 3) := by decide +kernel
theorem d187_13 : decode (cod 187) 13 = .ok (.ifCond .ne 5, 3) := by decide +kernel
theorem d187_16 : decode (cod 187) 16 = .ok (.iconst (-1), 1) := by decide +kernel
theorem d187_17 : decode (cod 187) 17 = .ok (.ireturn, 1) := by decide +kernel
theorem d187_18 : decode (cod 187) 18 = .ok (.iload_n 1, 1) := by decide +kernel
theorem d187_19 : decode (cod 187) 19 = .ok (.iload_n 2, 1) := by decide +kernel
theorem d187_20 : decode (cod 187) 20 = .ok (.if_icmp .ne 6, 3) := by decide +kernel
theorem d187_23 : decode (cod 187) 23 = .ok (.bipush (-2), 2) := by decide +kernel
theorem d187_25 : decode (cod 187) 25 = .ok (.ireturn, 1) := by decide +kernel
theorem d187_26 : decode (cod 187) 26 = .ok (.aload_n 0, 1) := by decide +kernel
theorem d187_27 : decode (cod 187) 27 = .ok (.aload_n 0, 1) := by decide +kernel
theorem d187_28 : decode (cod 187) 28 = .ok (.iload_n 1, 1) := by decide +kernel
theorem d187_29 : decode (cod 187) 29 = .ok (.iconst 0, 1) := by decide +kernel
theorem d187_30 : decode (cod 187) 30 = .ok (.invokevirtual 51, 3) := by decide +kernel
theorem d187_33 : decode (cod 187) 33 = .ok (.aload_n 0, 1) := by decide +kernel
theorem d187_34 : decode (cod 187) 34 = .ok (.iload_n 2, 1) := by decide +kernel
theorem d187_35 : decode (cod 187) 35 = .ok (.iconst 0, 1) := by decide +kernel
theorem d187_36 : decode (cod 187) 36 = .ok (.invokevirtual 51, 3) := by decide +kernel
theorem d187_39 : decode (cod 187) 39 = .ok (.if_icmp .ne 7, 3) := by decide +kernel
theorem d187_42 : decode (cod 187) 42 = .ok (.iconst 1, 1) := by decide +kernel
theorem d187_43 : decode (cod 187) 43 = .ok (.goto 4, 3) := by decide +kernel
theorem d187_46 : decode (cod 187) 46 = .ok (.iconst 2, 1) := by decide +kernel
theorem d187_47 : decode (cod 187) 47 = .ok (.iload_n 1, 1) := by decide +kernel
theorem d187_48 : decode (cod 187) 48 = .ok (.iload_n 2, 1) := by decide +kernel
theorem d187_49 : decode (cod 187) 49 = .ok (.iload_n 3, 1) := by decide +kernel
theorem d187_50 : decode (cod 187) 50 = .ok (.invokevirtual 167, 3) := by decide +kernel
theorem d187_53 : decode (cod 187) 53 = .ok (.ireturn, 1) := by decide +kernel
