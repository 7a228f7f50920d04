/-! what stands at each place of the code (by wip/whole/gen17.py) -/
theorem d188_0 : decode (cod 188) 0 = .ok (.aload_n 0, 1) := by decide +kernel
theorem d188_1 : decode (cod 188) 1 = .ok (.iload_n 2, 1) := by decide +kernel
theorem d188_2 : decode (cod 188) 2 = .ok (.invokevirtual 48, 3) := by decide +kernel
theorem d188_5 : decode (cod 188) 5 = .ok (.ifCond .eq 12, 3) := by decide +kernel
theorem d188_8 : decode (cod 188) 8 = .ok (.iload_n 1, 1) := by decide +kernel
theorem d188_9 : decode (cod 188) 9 = .ok (.iconst 3, 1) := by decide +kernel
theorem d188_10 : decode (cod 188) 10 = .ok (.iconst 4, 1) := by decide +kernel
theorem d188_11 : decode (cod 188) 11 = .ok (.invokestatic 36, 3) := by decide +kernel
theorem d188_14 : decode (cod 188) 14 = .ok (.ifCond .ne 5, 3) := by decide +kernel
theorem d188_17 : decode (cod 188) 17 = .ok (.iconst (-1), 1) := by decide +kernel
theorem d188_18 : decode (cod 188) 18 = .ok (.ireturn, 1) := by decide +kernel
theorem d188_19 : decode (cod 188) 19 = .ok (.aload_n 0, 1) := by decide +kernel
theorem d188_20 : decode (cod 188) 20 = .ok (.iload_n 1, 1) := by decide +kernel
theorem d188_21 : decode (cod 188) 21 = .ok (.iload_n 2, 1) := by decide +kernel
theorem d188_22 : decode (cod 188) 22 = .ok (.bipush 12, 2) := by decide +kernel
theorem d188_24 : decode (cod 188) 24 = .ok (.iload_n 3, 1) := by decide +kernel
theorem d188_25 : decode (cod 188) 25 = .ok (.invokevirtual 167, 3) := by decide +kernel
theorem d188_28 : decode (cod 188) 28 = .ok (.ireturn, 1) := by decide +kernel
theorem d189_0 : decode (cod 189) 0 = .ok (.aload_n 0, 1) := by decide +kernel
theorem d189_1 : decode (cod 189) 1 = .ok (.iload_n 1, 1) := by decide +kernel
theorem d189_2 : decode (cod 189) 2 = .ok (.iconst 0, 1) := by decide +kernel
theorem d189_3 : decode (cod 189) 3 = .ok (.invokevirtual 104, 3) := by decide +kernel
theorem d189_6 : decode (cod 189) 6 = .ok (.iconst 4, 1) := by decide +kernel
theorem d189_7 : decode (cod 189) 7 = .ok (.if_icmp .ne 10, 3) := by decide +kernel
theorem d189_10 : decode (cod 189) 10 = .ok (.iload_n 2, 1) := by decide +kernel
theorem d189_11 : decode (cod 189) 11 = .ok (.bipush 20, 2) := by decide +kernel
theorem d189_13 : decode (cod 189) 13 = .ok (.isub, 1) := by decide +kernel
theorem d189_14 : decode (cod 189) 14 = .ok (.goto 20, 3) := by decide +kernel
theorem d189_17 : decode (cod 189) 17 = .ok (.aload_n 0, 1) := by decide +kernel
theorem d189_18 : decode (cod 189) 18 = .ok (.iload_n 1, 1) := by decide +kernel
theorem d189_19 : decode (cod 189) 19 = .ok (.iconst 0, 1) := by decide +kernel
theorem d189_20 : decode (cod 189) 20 = .ok (.invokevirtual 104, 3) := by decide +kernel
theorem d189_23 : decode (cod 189) 23 = .ok (.iconst 3, 1) := by decide +kernel
theorem d189_24 : decode (cod 189) 24 = .ok (.if_icmp .ne 9, 3) := by decide +kernel
theorem d189_27 : decode (cod 189) 27 = .ok (.iload_n 2, 1) := by decide +kernel
theorem d189_28 : decode (cod 189) 28 = .ok (.iconst 5, 1) := by decide +kernel
theorem d189_29 : decode (cod 189) 29 = .ok (.iadd, 1) := by decide +kernel
theorem d189_30 : decode (cod 189) 30 = .ok (.goto 4, 3) := by decide +kernel
theorem d189_33 : decode (cod 189) 33 = .ok (.iload_n 2, 1) := by decide +kernel
theorem d189_34 : decode (cod 189) 34 = .ok (.ireturn, 1) := by decide +kernel
theorem d190_0 : decode (cod 190) 0 = .ok (.aload_n 0, 1) := by decide +kernel
theorem d190_1 : decode (cod 190) 1 = .ok (.iload_n 1, 1) := by decide +kernel
theorem d190_2 : decode (cod 190) 2 = .ok (.aload_n 0, 1) := by decide +kernel
theorem d190_3 : decode (cod 190) 3 = .ok (.iconst 0, 1) := by decide +kernel
theorem d190_4 : decode (cod 190) 4 = .ok (.iload_n 1, 1) := by decide +kernel
theorem d190_5 : decode (cod 190) 5 = .ok (.aload_n 0, 1) := by decide +kernel
theorem d190_6 : decode (cod 190) 6 = .ok (.iload_n 1, 1) := by decide +kernel
theorem d190_7 : decode (cod 190) 7 = .ok (.iconst 4, 1) := by decide +kernel
theorem d190_8 : decode (cod 190) 8 = .ok (.invokevirtual 104, 3) := by decide +kernel
theorem d190_11 : decode (cod 190) 11 = .ok (.bipush 100, 2) := by decide +kernel
theorem d190_13 : decode (cod 190) 13 = .ok (.idiv, 1) := by decide +kernel
theorem d190_14 : decode (cod 190) 14 = .ok (.invokevirtual 164, 3) := by decide +kernel
theorem d190_17 : decode (cod 190) 17 = .ok (.invokevirtual 171, 3) := by decide +kernel
theorem d190_20 : decode (cod 190) 20 = .ok (.ireturn, 1) := by decide +kernel
theorem d191_0 : decode (cod 191) 0 = .ok (.aload_n 0, 1) := by decide +kernel
theorem d191_1 : decode (cod 191) 1 = .ok (.iload_n 1, 1) := by decide +kernel
theorem d191_2 : decode (cod 191) 2 = .ok (.iconst 3, 1) := by decide +kernel
theorem d191_3 : decode (cod 191) 3 = .ok (.invokevirtual 104, 3) := by decide +kernel
theorem d191_6 : decode (cod 191) 6 = .ok (.istore_n 2, 1) := by decide +kernel
theorem d191_7 : decode (cod 191) 7 = .ok (.aload_n 0, 1) := by decide +kernel
theorem d191_8 : decode (cod 191) 8 = .ok (.iload_n 1, 1) := by decide +kernel
theorem d191_9 : decode (cod 191) 9 = .ok (.iconst 0, 1) := by decide +kernel
theorem d191_10 : decode (cod 191) 10 = .ok (.invokevirtual 104, 3) := by decide +kernel
theorem d191_13 : decode (cod 191) 13 = .ok (.tableswitch 39 2 4 #[27, 31, 37], 27) := by decide +kernel
theorem d191_40 : decode (cod 191) 40 = .ok (.iload_n 2, 1) := by decide +kernel
theorem d191_41 : decode (cod 191) 41 = .ok (.iconst 2, 1) := by decide +kernel
theorem d191_42 : decode (cod 191) 42 = .ok (.iadd, 1) := by decide +kernel
theorem d191_43 : decode (cod 191) 43 = .ok (.ireturn, 1) := by decide +kernel
theorem d191_44 : decode (cod 191) 44 = .ok (.iconst 3, 1) := by decide +kernel
theorem d191_45 : decode (cod 191) 45 = .ok (.iload_n 2, 1) := by decide +kernel
theorem d191_46 : decode (cod 191) 46 = .ok (.iconst 2, 1) := by decide +kernel
theorem d191_47 : decode (cod 191) 47 = .ok (.iadd, 1) := by decide +kernel
theorem d191_48 : decode (cod 191) 48 = .ok (.imul, 1) := by decide +kernel
theorem d191_49 : decode (cod 191) 49 = .ok (.ireturn, 1) := by decide +kernel
theorem d191_50 : decode (cod 191) 50 = .ok (.iconst 0, 1) := by decide +kernel
theorem d191_51 : decode (cod 191) 51 = .ok (.ireturn, 1) := by decide +kernel
theorem d191_52 : decode (cod 191) 52 = .ok (.iload_n 2, 1) := by decide +kernel
theorem d191_53 : decode (cod 191) 53 = .ok (.ireturn, 1) := by decide +kernel
theorem d192_0 : decode (cod 192) 0 = .ok (.aload_n 0, 1) := by decide +kernel
theorem d192_1 : decode (cod 192) 1 = .ok (.aload_n 0, 1) := by decide +kernel
theorem d192_2 : decode (cod 192) 2 = .ok (.iload_n 1, 1) := by decide +kernel
theorem d192_3 : decode (cod 192) 3 = .ok (.iconst 1, 1) := by decide +kernel
theorem d192_4 : decode (cod 192) 4 = .ok (.invokevirtual 104, 3) := by decide +kernel
theorem d192_7 : decode (cod 192) 7 = .ok (.iconst 0, 1) := by decide +kernel
theorem d192_8 : decode (cod 192) 8 = .ok (.invokevirtual 51, 3) := by decide +kernel
theorem d192_11 : decode (cod 192) 11 = .ok (.ireturn, 1) := by decide +kernel
theorem d193_0 : decode (cod 193) 0 = .ok (.aload_n 0, 1) := by decide +kernel
theorem d193_1 : decode (cod 193) 1 = .ok (.iload_n 1, 1) := by decide +kernel
theorem d193_2 : decode (cod 193) 2 = .ok (.invokevirtual 174, 3) := by decide +kernel
theorem d193_5 : decode (cod 193) 5 = .ok (.iload_n 2, 1) := by decide +kernel
theorem d193_6 : decode (cod 193) 6 = .ok (.if_icmp .eq 28, 3) := by decide +kernel
theorem d193_9 : decode (cod 193) 9 = .ok (.aload_n 0, 1) := by decide +kernel
theorem d193_10 : decode (cod 193) 10 = .ok (.iload_n 1, 1) := by decide +kernel
theorem d193_11 : decode (cod 193) 11 = .ok (.iconst 0, 1) := by decide +kernel
theorem d193_12 : decode (cod 193) 12 = .ok (.invokevirtual 104, 3) := by decide +kernel
theorem d193_15 : decode (cod 193) 15 = .ok (.iconst 2, 1) := by decide +kernel
theorem d193_16 : decode (cod 193) 16 = .ok (.if_icmp .ne 22, 3) := by decide +kernel
theorem d193_19 : decode (cod 193) 19 = .ok (.aload_n 0, 1) := by decide +kernel
theorem d193_20 : decode (cod 193) 20 = .ok (.aload_n 0, 1) := by decide +kernel
theorem d193_21 : decode (cod 193) 21 = .ok (.iload_n 1, 1) := by decide +kernel
theorem d193_22 : decode (cod 193) 22 = .ok (.iconst 2, 1) := by decide +kernel
theorem d193_23 : decode (cod 193) 23 = .ok (.invokevirtual 104, 3) := by decide +kernel
theorem d193_26 : decode (cod 193) 26 = .ok (.iconst 0, 1) := by decide +kernel
theorem d193_27 : decode (cod 193) 27 = .ok (.invokevirtual 51, 3) := by decide +kernel
theorem d193_30 : decode (cod 193) 30 = .ok (.iload_n 2, 1) := by decide +kernel
theorem d193_31 : decode (cod 193) 31 = .ok (.if_icmp .ne 7, 3) := by decide +kernel
theorem d193_34 : decode (cod 193) 34 = .ok (.iconst 1, 1) := by decide +kernel
theorem d193_35 : decode (cod 193) 35 = .ok (.goto 4, 3) := by decide +kernel
theorem d193_38 : decode (cod 193) 38 = .ok (.iconst 0, 1) := by decide +kernel
theorem d193_39 : decode (cod 193) 39 = .ok (.ireturn, 1) := by decide +kernel
theorem d194_0 : decode (cod 194) 0 = .ok (.aload_n 0, 1) := by decide +kernel
theorem d194_1 : decode (cod 194) 1 = .ok (.iload_n 1, 1) := by decide +kernel
theorem d194_2 : decode (cod 194) 2 = .ok (.iconst 0, 1) := by decide +kernel
theorem d194_3 : decode (cod 194) 3 = .ok (.invokevirtual 104, 3) := by decide +kernel
theorem d194_6 : decode (cod 194) 6 = .ok (.iconst 2, 1) := by decide +kernel
theorem d194_7 : decode (cod 194) 7 = .ok (.if_icmp .eq 13, 3) := by decide +kernel
theorem d194_10 : decode (cod 194) 10 = .ok (.aload_n 0, 1) := by decide +kernel
theorem d194_11 : decode (cod 194) 11 = .ok (.iload_n 1, 1) := by decide +kernel
theorem d194_12 : decode (cod 194) 12 = .ok (.iconst 0, 1) := by decide +kernel
theorem d194_13 : decode (cod 194) 13 = .ok (.invokevirtual 104, 3) := by decide +kernel
theorem d194_16 : decode (cod 194) 16 = .ok (.iconst 3, 1) := by decide +kernel
theorem d194_17 : decode (cod 194) 17 = .ok (.if_icmp .ne 7, 3) := by decide +kernel
theorem d194_20 : decode (cod 194) 20 = .ok (.iconst 1, 1) := by decide +kernel
theorem d194_21 : decode (cod 194) 21 = .ok (.goto 4, 3) := by decide +kernel
theorem d194_24 : decode (cod 194) 24 = .ok (.iconst 0, 1) := by decide +kernel
theorem d194_25 : decode (cod 194) 25 = .ok (.ireturn, 1) := by decide +kernel
theorem d195_0 : decode (cod 195) 0 = .ok (.iconst 0, 1) := by decide +kernel
theorem d195_1 : decode (cod 195) 1 = .ok (.istore_n 2, 1) := by decide +kernel
theorem d195_2 : decode (cod 195) 2 = .ok (.iconst 0, 1) := by decide +kernel
theorem d195_3 : decode (cod 195) 3 = .ok (.istore_n 3, 1) := by decide +kernel
theorem d195_4 : decode (cod 195) 4 = .ok (.iload_n 3, 1) := by decide +kernel
theorem d195_5 : decode (cod 195) 5 = .ok (.aload_n 0, 1) := by decide +kernel
theorem d195_6 : decode (cod 195) 6 = .ok (.getfield 13, 3) := by decide +kernel
theorem d195_9 : decode (cod 195) 9 = .ok (.iconst 0, 1) := by decide +kernel
theorem d195_10 : decode (cod 195) 10 = .ok (.iaload, 1) := by decide +kernel
theorem d195_11 : decode (cod 195) 11 = .ok (.if_icmp .ge 29, 3) := by decide +kernel
theorem d195_14 : decode (cod 195) 14 = .ok (.iload_n 2, 1) := by decide +kernel
theorem d195_15 : decode (cod 195) 15 = .ok (.aload_n 0, 1) := by decide +kernel
theorem d195_16 : decode (cod 195) 16 = .ok (.iload_n 3, 1) := by decide +kernel
theorem d195_17 : decode (cod 195) 17 = .ok (.iconst 0, 1) := by decide +kernel
theorem d195_18 : decode (cod 195) 18 = .ok (.invokevirtual 51, 3) := by decide +kernel
theorem d195_21 : decode (cod 195) 21 = .ok (.iload_n 1, 1) := by decide +kernel
theorem d195_22 : decode (cod 195) 22 = .ok (.if_icmp .ne 9, 3) := by decide +kernel
theorem d195_25 : decode (cod 195) 25 = .ok (.iconst 1, 1) := by decide +kernel
theorem d195_26 : decode (cod 195) 26 = .ok (.iload_n 3, 1) := by decide +kernel
theorem d195_27 : decode (cod 195) 27 = .ok (.ishl, 1) := by decide +kernel
theorem d195_28 : decode (cod 195) 28 = .ok (.goto 4, 3) := by decide +kernel
theorem d195_31 : decode (cod 195) 31 = .ok (.iconst 0, 1) := by decide +kernel
theorem d195_32 : decode (cod 195) 32 = .ok (.ior, 1) := by decide +kernel
theorem d195_33 : decode (cod 195) 33 = .ok (.istore_n 2, 1) := by decide +kernel
theorem d195_34 : decode (cod 195) 34 = .ok (.iinc 3 1, 3) := by decide +kernel
theorem d195_37 : decode (cod 195) 37 = .ok (.goto (-33), 3) := by decide +kernel
theorem d195_40 : decode (cod 195) 40 = .ok (.iload_n 2, 1) := by decide +kernel
theorem d195_41 : decode (cod 195) 41 = .ok (.ireturn, 1) := by decide +kernel
theorem d196_0 : decode (cod 196) 0 = .ok (.iload_n 0, 1) := by decide +kernel
theorem d196_1 : decode (cod 196) 1 = .ok (.iload_n 1, 1) := by decide +kernel
theorem d196_2 : decode (cod 196) 2 = .ok (.if_icmp .ge 9, 3) := by decide +kernel
theorem d196_5 : decode (cod 196) 5 = .ok (.iload_n 1, 1) := by decide +kernel
theorem d196_6 : decode (cod 196) 6 = .ok (.iload_n 0, 1) := by decide +kernel
theorem d196_7 : decode (cod 196) 7 = .ok (.isub, 1) := by decide +kernel
theorem d196_8 : decode (cod 196) 8 = .ok (.goto 6, 3) := by decide +kernel
theorem d196_11 : decode (cod 196) 11 = .ok (.iload_n 0, 1) := by decide +kernel
theorem d196_12 : decode (cod 196) 12 = .ok (.iload_n 1, 1) := by decide +kernel
theorem d196_13 : decode (cod 196) 13 = .ok (.isub, 1) := by decide +kernel
theorem d196_14 : decode (cod 196) 14 = .ok (.ireturn, 1) := by decide +kernel
theorem d197_0 : decode (cod 197) 0 = .ok (.aload_n 0, 1) := by decide +kernel
theorem d197_1 : decode (cod 197) 1 = .ok (.iload_n 1, 1) := by decide +kernel
theorem d197_2 : decode (cod 197) 2 = .ok (.iconst 1, 1) := by decide +kernel
theorem d197_3 : decode (cod 197) 3 = .ok (.invokevirtual 104, 3) := by decide +kernel
theorem d197_6 : decode (cod 197) 6 = .ok (.istore_n 2, 1) := by decide +kernel
theorem d197_7 : decode (cod 197) 7 = .ok (.aload_n 0, 1) := by decide +kernel
theorem d197_8 : decode (cod 197) 8 = .ok (.iload_n 1, 1) := by decide +kernel
theorem d197_9 : decode (cod 197) 9 = .ok (.iconst 2, 1) := by decide +kernel
theorem d197_10 : decode (cod 197) 10 = .ok (.invokevirtual 104, 3) := by decide +kernel
theorem d197_13 : decode (cod 197) 13 = .ok (.istore_n 3, 1) := by decide +kernel
theorem d197_14 : decode (cod 197) 14 = .ok (.iconst 0, 1) := by decide +kernel
theorem d197_15 : decode (cod 197) 15 = .ok (.istore 4, 2) := by decide +kernel
theorem d197_17 : decode (cod 197) 17 = .ok (.iconst 0, 1) := by decide +kernel
theorem d197_18 : decode (cod 197) 18 = .ok (.istore 5, 2) := by decide +kernel
theorem d197_20 : decode (cod 197) 20 = .ok (.aload_n 0, 1) := by decide +kernel
theorem d197_21 : decode (cod 197) 21 = .ok (.iload_n 1, 1) := by decide +kernel
theorem d197_22 : decode (cod 197) 22 = .ok (.iconst 0, 1) := by decide +kernel
theorem d197_23 : decode (cod 197) 23 = .ok (.invokevirtual 104, 3) := by decide +kernel
theorem d197_26 : decode (cod 197) 26 = .ok (.tableswitch 95 1 3 #[26, 54, 82], 26) := by decide +kernel
theorem d197_52 : decode (cod 197) 52 = .ok (.aload_n 0, 1) := by decide +kernel
theorem d197_53 : decode (cod 197) 53 = .ok (.iload_n 2, 1) := by decide +kernel
theorem d197_54 : decode (cod 197) 54 = .ok (.iconst 1, 1) := by decide +kernel
theorem d197_55 : decode (cod 197) 55 = .ok (.invokevirtual 51, 3) := by decide +kernel
theorem d197_58 : decode (cod 197) 58 = .ok (.aload_n 0, 1) := by decide +kernel
theorem d197_59 : decode (cod 197) 59 = .ok (.iload_n 3, 1) := by decide +kernel
theorem d197_60 : decode (cod 197) 60 = .ok (.iconst 1, 1) := by decide +kernel
theorem d197_61 : decode (cod 197) 61 = .ok (.invokevirtual 51, 3) := by decide +kernel
theorem d197_64 : decode (cod 197) 64 = .ok (.invokestatic 177, 3) := by decide +kernel
theorem d197_67 : decode (cod 197) 67 = .ok (.istore 4, 2) := by decide +kernel
theorem d197_69 : decode (cod 197) 69 = .ok (.aload_n 0, 1) := by decide +kernel
theorem d197_70 : decode (cod 197) 70 = .ok (.iload_n 3, 1) := by decide +kernel
theorem d197_71 : decode (cod 197) 71 = .ok (.iconst 2, 1) := by decide +kernel
theorem d197_72 : decode (cod 197) 72 = .ok (.invokevirtual 51, 3) := by decide +kernel
theorem d197_75 : decode (cod 197) 75 = .ok (.istore 5, 2) := by decide +kernel
theorem d197_77 : decode (cod 197) 77 = .ok (.goto 117, 3) := by decide +kernel
theorem d197_80 : decode (cod 197) 80 = .ok (.aload_n 0, 1) := by decide +kernel
theorem d197_81 : decode (cod 197) 81 = .ok (.iload_n 2, 1) := by decide +kernel
theorem d197_82 : decode (cod 197) 82 = .ok (.iconst 1, 1) := by decide +kernel
theorem d197_83 : decode (cod 197) 83 = .ok (.invokevirtual 51, 3) := by decide +kernel
theorem d197_86 : decode (cod 197) 86 = .ok (.aload_n 0, 1) := by decide +kernel
theorem d197_87 : decode (cod 197) 87 = .ok (.iload_n 3, 1) := by decide +kernel
theorem d197_88 : decode (cod 197) 88 = .ok (.iconst 1, 1) := by decide +kernel
theorem d197_89 : decode (cod 197) 89 = .ok (.invokevirtual 51, 3) := by decide +kernel
theorem d197_92 : decode (cod 197) 92 = .ok (.iadd, 1) := by decide +kernel
theorem d197_93 : decode (cod 197) 93 = .ok (.iconst 2, 1) := by decide +kernel
theorem d197_94 : decode (cod 197) 94 = .ok (.iadd, 1) := by decide +kernel
theorem d197_95 : decode (cod 197) 95 = .ok (.istore 4, 2) := by decide +kernel
theorem d197_97 : decode (cod 197) 97 = .ok (.aload_n 0, 1) := by decide +kernel
theorem d197_98 : decode (cod 197) 98 = .ok (.iload_n 3, 1) := by decide +kernel
theorem d197_99 : decode (cod 197) 99 = .ok (.iconst 2, 1) := by decide +kernel
theorem d197_100 : decode (cod 197) 100 = .ok (.invokevirtual 51, 3) := by decide +kernel
theorem d197_103 : decode (cod 197) 103 = .ok (.istore 5, 2) := by decide +kernel
theorem d197_105 : decode (cod 197) 105 = .ok (.goto 89, 3) := by decide +kernel
theorem d197_108 : decode (cod 197) 108 = .ok (.aload_n 0, 1) := by decide +kernel
theorem d197_109 : decode (cod 197) 109 = .ok (.iload_n 2, 1) := by decide +kernel
theorem d197_110 : decode (cod 197) 110 = .ok (.iconst 1, 1) := by decide +kernel
theorem d197_111 : decode (cod 197) 111 = .ok (.invokevirtual 51, 3) := by decide +kernel
theorem d197_114 : decode (cod 197) 114 = .ok (.iconst 1, 1) := by decide +kernel
theorem d197_115 : decode (cod 197) 115 = .ok (.iadd, 1) := by decide +kernel
theorem d197_116 : decode (cod 197) 116 = .ok (.istore 4, 2) := by decide +kernel
theorem d197_118 : decode (cod 197) 118 = .ok (.goto 76, 3) := by decide +kernel
theorem d197_121 : decode (cod 197) 121 = .ok (.iconst 0, 1) := by decide +kernel
theorem d197_122 : decode (cod 197) 122 = .ok (.istore 6, 2) := by decide +kernel
theorem d197_124 : decode (cod 197) 124 = .ok (.iload 6, 2) := by decide +kernel
theorem d197_126 : decode (cod 197) 126 = .ok (.aload_n 0, 1) := by decide +kernel
theorem d197_127 : decode (cod 197) 127 = .ok (.getfield 13, 3) := by decide +kernel
theorem d197_130 : decode (cod 197) 130 = .ok (.iconst 0, 1) := by decide +kernel
theorem d197_131 : decode (cod 197) 131 = .ok (.iaload, 1) := by decide +kernel
theorem d197_132 : decode (cod 197) 132 = .ok (.if_icmp .ge 62, 3) := by decide +kernel
theorem d197_135 : decode (cod 197) 135 = .ok (.aload_n 0, 1) := by decide +kernel
theorem d197_136 : decode (cod 197) 136 = .ok (.iload 6, 2) := by decide +kernel
theorem d197_138 : decode (cod 197) 138 = .ok (.iconst 0, 1) := by decide +kernel
theorem d197_139 : decode (cod 197) 139 = .ok (.invokevirtual 51, 3) := by decide +kernel
theorem d197_142 : decode (cod 197) 142 = .ok (.aload_n 0, 1) := by decide +kernel
theorem d197_143 : decode (cod 197) 143 = .ok (.iload_n 1, 1) := by decide +kernel
theorem d197_144 : decode (cod 197) 144 = .ok (.invokevirtual 174, 3) := by decide +kernel
theorem d197_147 : decode (cod 197) 147 = .ok (.if_icmp .ne 22, 3) := by decide +kernel
theorem d197_150 : decode (cod 197) 150 = .ok (.aload_n 0, 1) := by decide +kernel
theorem d197_151 : decode (cod 197) 151 = .ok (.iload 6, 2) := by decide +kernel
theorem d197_153 : decode (cod 197) 153 = .ok (.iconst 1, 1) := by decide +kernel
theorem d197_154 : decode (cod 197) 154 = .ok (.invokevirtual 51, 3) := by decide +kernel
theorem d197_157 : decode (cod 197) 157 = .ok (.aload_n 0, 1) := by decide +kernel
theorem d197_158 : decode (cod 197) 158 = .ok (.iload_n 2, 1) := by decide +kernel
theorem d197_159 : decode (cod 197) 159 = .ok (.iconst 1, 1) := by decide +kernel
theorem d197_160 : decode (cod 197) 160 = .ok (.invokevirtual 51, 3) := by decide +kernel
theorem d197_163 : decode (cod 197) 163 = .ok (.invokestatic 177, 3) := by decide +kernel
theorem d197_166 : decode (cod 197) 166 = .ok (.goto 4, 3) := by decide +kernel
theorem d197_169 : decode (cod 197) 169 = .ok (.iconst 0, 1) := by decide +kernel
theorem d197_170 : decode (cod 197) 170 = .ok (.istore 7, 2) := by decide +kernel
theorem d197_172 : decode (cod 197) 172 = .ok (.iload 7, 2) := by decide +kernel
theorem d197_174 : decode (cod 197) 174 = .ok (.iload 4, 2) := by decide +kernel
theorem d197_176 : decode (cod 197) 176 = .ok (.if_icmp .le 8, 3) := by decide +kernel
theorem d197_179 : decode (cod 197) 179 = .ok (.iload 7, 2) := by decide +kernel
theorem d197_181 : decode (cod 197) 181 = .ok (.goto 5, 3) := by decide +kernel
theorem d197_184 : decode (cod 197) 184 = .ok (.iload 4, 2) := by decide +kernel
theorem d197_186 : decode (cod 197) 186 = .ok (.istore 4, 2) := by decide +kernel
theorem d197_188 : decode (cod 197) 188 = .ok (.iinc 6 1, 3) := by decide +kernel
theorem d197_191 : decode (cod 197) 191 = .ok (.goto (-67), 3) := by decide +kernel
theorem d197_194 : decode (cod 197) 194 = .ok (.bipush 100, 2) := by decide +kernel
theorem d197_196 : decode (cod 197) 196 = .ok (.iconst 4, 1) := by decide +kernel
theorem d197_197 : decode (cod 197) 197 = .ok (.iload 4, 2) := by decide +kernel
theorem d197_199 : decode (cod 197) 199 = .ok (.imul, 1) := by decide +kernel
theorem d197_200 : decode (cod 197) 200 = .ok (.isub, 1) := by decide +kernel
theorem d197_201 : decode (cod 197) 201 = .ok (.bipush 7, 2) := by decide +kernel
theorem d197_203 : decode (cod 197) 203 = .ok (.aload_n 0, 1) := by decide +kernel
theorem d197_204 : decode (cod 197) 204 = .ok (.iload_n 1, 1) := by decide +kernel
theorem d197_205 : decode (cod 197) 205 = .ok (.bipush 7, 2) := by decide +kernel
theorem d197_207 : decode (cod 197) 207 = .ok (.invokevirtual 104, 3) := by decide +kernel
theorem d197_210 : decode (cod 197) 210 = .ok (.invokestatic 55, 3) := by decide +kernel
theorem d197_213 : decode (cod 197) 213 = .ok (.imul, 1) := by decide +kernel
theorem d197_214 : decode (cod 197) 214 = .ok (.isub, 1) := by decide +kernel
theorem d197_215 : decode (cod 197) 215 = .ok (.iload 5, 2) := by decide +kernel
theorem d197_217 : decode (cod 197) 217 = .ok (.iadd, 1) := by decide +kernel
theorem d197_218 : decode (cod 197) 218 = .ok (.istore 6, 2) := by decide +kernel
theorem d197_220 : decode (cod 197) 220 = .ok (.iload 6, 2) := by decide +kernel
theorem d197_222 : decode (cod 197) 222 = .ok (.ifCond .ge 7, 3) := by decide +kernel
theorem d197_225 : decode (cod 197) 225 = .ok (.iconst 0, 1) := by decide +kernel
theorem d197_226 : decode (cod 197) 226 = .ok (.goto 5, 3) := by decide +kernel
theorem d197_229 : decode (cod 197) 229 = .ok (.iload 6, 2) := by decide +kernel
theorem d197_231 : decode (cod 197) 231 = .ok (.ireturn, 1) := by decide +kernel
theorem d198_0 : decode (cod 198) 0 = .ok (.aload_n 0, 1) := by decide +kernel
theorem d198_1 : decode (cod 198) 1 = .ok (.iload_n 1, 1) := by decide +kernel
theorem d198_2 : decode (cod 198) 2 = .ok (.invokevirtual 157, 3) := by decide +kernel
theorem d198_5 : decode (cod 198) 5 = .ok (.ifCond .ne 5, 3) := by decide +kernel
theorem d198_8 : decode (cod 198) 8 = .ok (.iconst (-1), 1) := by decide +kernel
theorem d198_9 : decode (cod 198) 9 = .ok (.ireturn, 1) := by decide +kernel
theorem d198_10 : decode (cod 198) 10 = .ok (.iload_n 2, 1) := by decide +kernel
theorem d198_11 : decode (cod 198) 11 = .ok (.tableswitch 181 0 7 #[45, 52, 59, 65, 71, 110, 145, 151], 45) := by decide +kernel
theorem d198_56 : decode (cod 198) 56 = .ok (.aload_n 0, 1) := by decide +kernel
theorem d198_57 : decode (cod 198) 57 = .ok (.iload_n 1, 1) := by decide +kernel
theorem d198_58 : decode (cod 198) 58 = .ok (.iconst 0, 1) := by decide +kernel
theorem d198_59 : decode (cod 198) 59 = .ok (.invokevirtual 104, 3) := by decide +kernel
theorem d198_62 : decode (cod 198) 62 = .ok (.ireturn, 1) := by decide +kernel
theorem d198_63 : decode (cod 198) 63 = .ok (.aload_n 0, 1) := by decide +kernel
theorem d198_64 : decode (cod 198) 64 = .ok (.iload_n 1, 1) := by decide +kernel
theorem d198_65 : decode (cod 198) 65 = .ok (.iconst 5, 1) := by decide +kernel
theorem d198_66 : decode (cod 198) 66 = .ok (.invokevirtual 104, 3) := by decide +kernel
theorem d198_69 : decode (cod 198) 69 = .ok (.ireturn, 1) := by decide +kernel
theorem d198_70 : decode (cod 198) 70 = .ok (.aload_n 0, 1) := by decide +kernel
theorem d198_71 : decode (cod 198) 71 = .ok (.iload_n 1, 1) := by decide +kernel
theorem d198_72 : decode (cod 198) 72 = .ok (.invokevirtual 180, 3) := by decide +kernel
theorem d198_75 : decode (cod 198) 75 = .ok (.ireturn, 1) := by decide +kernel
theorem d198_76 : decode (cod 198) 76 = .ok (.aload_n 0, 1) := by decide +kernel
theorem d198_77 : decode (cod 198) 77 = .ok (.iload_n 1, 1) := by decide +kernel
theorem d198_78 : decode (cod 198) 78 = .ok (.invokevirtual 183, 3) := by decide +kernel
theorem d198_81 : decode (cod 198) 81 = .ok (.ireturn, 1) := by decide +kernel
theorem d198_82 : decode (cod 198) 82 = .ok (.aload_n 0, 1) := by decide +kernel
theorem d198_83 : decode (cod 198) 83 = .ok (.iload_n 1, 1) := by decide +kernel
theorem d198_84 : decode (cod 198) 84 = .ok (.iconst 0, 1) := by decide +kernel
theorem d198_85 : decode (cod 198) 85 = .ok (.invokevirtual 104, 3) := by decide +kernel
theorem d198_88 : decode (cod 198) 88 = .ok (.iconst 4, 1) := by decide +kernel
theorem d198_89 : decode (cod 198) 89 = .ok (.if_icmp .ne 18, 3) := by decide +kernel
theorem d198_92 : decode (cod 198) 92 = .ok (.aload_n 0, 1) := by decide +kernel
theorem d198_93 : decode (cod 198) 93 = .ok (.aload_n 0, 1) := by decide +kernel
theorem d198_94 : decode (cod 198) 94 = .ok (.iload_n 1, 1) := by decide +kernel
theorem d198_95 : decode (cod 198) 95 = .ok (.invokevirtual 174, 3) := by decide +kernel
theorem d198_98 : decode (cod 198) 98 = .ok (.invokevirtual 186, 3) := by decide +kernel
theorem d198_101 : decode (cod 198) 101 = .ok (.invokestatic 55, 3) := by decide +kernel
theorem d198_104 : decode (cod 198) 104 = .ok (.goto 16, 3) := by decide +kernel
theorem d198_107 : decode (cod 198) 107 = .ok (.aload_n 0, 1) := by decide +kernel
theorem d198_108 : decode (cod 198) 108 = .ok (.iload_n 1, 1) := by decide +kernel
theorem d198_109 : decode (cod 198) 109 = .ok (.invokevirtual 189, 3) := by decide +kernel
theorem d198_112 : decode (cod 198) 112 = .ok (.ifCond .eq 7, 3) := by decide +kernel
theorem d198_115 : decode (cod 198) 115 = .ok (.iconst 2, 1) := by decide +kernel
theorem d198_116 : decode (cod 198) 116 = .ok (.goto 4, 3) := by decide +kernel
theorem d198_119 : decode (cod 198) 119 = .ok (.iconst 1, 1) := by decide +kernel
theorem d198_120 : decode (cod 198) 120 = .ok (.ireturn, 1) := by decide +kernel
theorem d198_121 : decode (cod 198) 121 = .ok (.aload_n 0, 1) := by decide +kernel
theorem d198_122 : decode (cod 198) 122 = .ok (.iload_n 1, 1) := by decide +kernel
theorem d198_123 : decode (cod 198) 123 = .ok (.bipush 6, 2) := by decide +kernel
theorem d198_125 : decode (cod 198) 125 = .ok (.invokevirtual 104, 3) := by decide +kernel
theorem d198_128 : decode (cod 198) 128 = .ok (.iconst (-1), 1) := by decide +kernel
theorem d198_129 : decode (cod 198) 129 = .ok (.if_icmp .ne 12, 3) := by decide +kernel
theorem d198_132 : decode (cod 198) 132 = .ok (.aload_n 0, 1) := by decide +kernel
theorem d198_133 : decode (cod 198) 133 = .ok (.getfield 13, 3) := by decide +kernel
theorem d198_136 : decode (cod 198) 136 = .ok (.iconst 3, 1) := by decide +kernel
theorem d198_137 : decode (cod 198) 137 = .ok (.iaload, 1) := by decide +kernel
theorem d198_138 : decode (cod 198) 138 = .ok (.goto 10, 3) := by decide +kernel
theorem d198_141 : decode (cod 198) 141 = .ok (.aload_n 0, 1) := by decide +kernel
theorem d198_142 : decode (cod 198) 142 = .ok (.iload_n 1, 1) := by decide +kernel
theorem d198_143 : decode (cod 198) 143 = .ok (.bipush 6, 2) := by decide +kernel
theorem d198_145 : decode (cod 198) 145 = .ok (.invokevirtual 104, 3) := by decide +kernel
theorem d198_148 : decode (cod 198) 148 = .ok (.aload_n 0, 1) := by decide +kernel
theorem d198_149 : decode (cod 198) 149 = .ok (.iload_n 1, 1) := by decide +kernel
theorem d198_150 : decode (cod 198) 150 = .ok (.iconst 4, 1) := by decide +kernel
theorem d198_151 : decode (cod 198) 151 = .ok (.invokevirtual 104, 3) := by decide +kernel
theorem d198_154 : decode (cod 198) 154 = .ok (.isub, 1) := by decide +kernel
theorem d198_155 : decode (cod 198) 155 = .ok (.ireturn, 1) := by decide +kernel
theorem d198_156 : decode (cod 198) 156 = .ok (.aload_n 0, 1) := by decide +kernel
theorem d198_157 : decode (cod 198) 157 = .ok (.iload_n 1, 1) := by decide +kernel
theorem d198_158 : decode (cod 198) 158 = .ok (.invokevirtual 192, 3) := by decide +kernel
theorem d198_161 : decode (cod 198) 161 = .ok (.ireturn, 1) := by decide +kernel
theorem d198_162 : decode (cod 198) 162 = .ok (.aload_n 0, 1) := by decide +kernel
theorem d198_163 : decode (cod 198) 163 = .ok (.iload_n 1, 1) := by decide +kernel
theorem d198_164 : decode (cod 198) 164 = .ok (.invokevirtual 192, 3) := by decide +kernel
theorem d198_167 : decode (cod 198) 167 = .ok (.aload_n 0, 1) := by decide +kernel
theorem d198_168 : decode (cod 198) 168 = .ok (.bipush 6, 2) := by decide +kernel
theorem d198_170 : decode (cod 198) 170 = .ok (.iconst (-1), 1) := by decide +kernel
theorem d198_171 : decode (cod 198) 171 = .ok (.aload_n 0, 1) := by decide +kernel
theorem d198_172 : decode (cod 198) 172 = .ok (.iload_n 1, 1) := by decide +kernel
theorem d198_173 : decode (cod 198) 173 = .ok (.iconst 4, 1) := by decide +kernel
theorem d198_174 : decode (cod 198) 174 = .ok (.invokevirtual 104, 3) := by decide +kernel
theorem d198_177 : decode (cod 198) 177 = .ok (.bipush 100, 2) := by decide +kernel
theorem d198_179 : decode (cod 198) 179 = .ok (.idiv, 1) := by decide +kernel
theorem d198_180 : decode (cod 198) 180 = .ok (.invokevirtual 164, 3) := by decide +kernel
theorem d198_183 : decode (cod 198) 183 = .ok (.if_icmp .ge 7, 3) := by decide +kernel
theorem d198_186 : decode (cod 198) 186 = .ok (.iconst 1, 1) := by decide +kernel
theorem d198_187 : decode (cod 198) 187 = .ok (.goto 4, 3) := by decide +kernel
theorem d198_190 : decode (cod 198) 190 = .ok (.iconst 0, 1) := by decide +kernel
theorem d198_191 : decode (cod 198) 191 = .ok (.ireturn, 1) := by decide +kernel
theorem d198_192 : decode (cod 198) 192 = .ok (.iconst (-1), 1) := by decide +kernel
theorem d198_193 : decode (cod 198) 193 = .ok (.ireturn, 1) := by decide +kernel
theorem d199_0 : decode (cod 199) 0 = .ok (.iload_n 0, 1) := by decide +kernel
theorem d199_1 : decode (cod 199) 1 = .ok (.ifCond .ne 7, 3) := by decide +kernel
theorem d199_4 : decode (cod 199) 4 = .ok (.iconst (-1), 1) := by decide +kernel
theorem d199_5 : decode (cod 199) 5 = .ok (.goto 22, 3) := by decide +kernel
theorem d199_8 : decode (cod 199) 8 = .ok (.iload_n 0, 1) := by decide +kernel
theorem d199_9 : decode (cod 199) 9 = .ok (.iconst 3, 1) := by decide +kernel
theorem d199_10 : decode (cod 199) 10 = .ok (.if_icmp .ne 7, 3) := by decide +kernel
theorem d199_13 : decode (cod 199) 13 = .ok (.iconst 2, 1) := by decide +kernel
theorem d199_14 : decode (cod 199) 14 = .ok (.goto 13, 3) := by decide +kernel
theorem d199_17 : decode (cod 199) 17 = .ok (.iload_n 0, 1) := by decide +kernel
theorem d199_18 : decode (cod 199) 18 = .ok (.iconst 4, 1) := by decide +kernel
theorem d199_19 : decode (cod 199) 19 = .ok (.if_icmp .ne 7, 3) := by decide +kernel
theorem d199_22 : decode (cod 199) 22 = .ok (.iconst 1, 1) := by decide +kernel
theorem d199_23 : decode (cod 199) 23 = .ok (.goto 4, 3) := by decide +kernel
theorem d199_26 : decode (cod 199) 26 = .ok (.iconst 0, 1) := by decide +kernel
theorem d199_27 : decode (cod 199) 27 = .ok (.ireturn, 1) := by decide +kernel
theorem d200_0 : decode (cod 200) 0 = .ok (.aload_n 0, 1) := by decide +kernel
theorem d200_1 : decode (cod 200) 1 = .ok (.iload_n 1, 1) := by decide +kernel
theorem d200_2 : decode (cod 200) 2 = .ok (.invokevirtual 157, 3) := by decide +kernel
theorem d200_5 : decode (cod 200) 5 = .ok (.ifCond .eq 12, 3) := by decide +kernel
theorem d200_8 : decode (cod 200) 8 = .ok (.iload_n 2, 1) := by decide +kernel
theorem d200_9 : decode (cod 200) 9 = .ok (.iconst 0, 1) := by decide +kernel
theorem d200_10 : decode (cod 200) 10 = .ok (.iconst 4, 1) := by decide +kernel
theorem d200_11 : decode (cod 200) 11 = .ok (.invokestatic 36, 3) := by decide +kernel
theorem d200_14 : decode (cod 200) 14 = .ok (.ifCond .ne 5, 3) := by decide +kernel
theorem d200_17 : decode (cod 200) 17 = .ok (.iconst (-1), 1) := by decide +kernel
theorem d200_18 : decode (cod 200) 18 = .ok (.ireturn, 1) := by decide +kernel
theorem d200_19 : decode (cod 200) 19 = .ok (.aload_n 0, 1) := by decide +kernel
theorem d200_20 : decode (cod 200) 20 = .ok (.iload_n 1, 1) := by decide +kernel
theorem d200_21 : decode (cod 200) 21 = .ok (.iconst 0, 1) := by decide +kernel
theorem d200_22 : decode (cod 200) 22 = .ok (.invokevirtual 104, 3) := by decide +kernel
theorem d200_25 : decode (cod 200) 25 = .ok (.istore_n 3, 1) := by decide +kernel
theorem d200_26 : decode (cod 200) 26 = .ok (.iload_n 3, 1) := by decide +kernel
theorem d200_27 : decode (cod 200) 27 = .ok (.iconst (-1), 1) := by decide +kernel
theorem d200_28 : decode (cod 200) 28 = .ok (.if_icmp .eq 16, 3) := by decide +kernel
theorem d200_31 : decode (cod 200) 31 = .ok (.iload_n 3, 1) := by decide +kernel
theorem d200_32 : decode (cod 200) 32 = .ok (.iload_n 2, 1) := by decide +kernel
theorem d200_33 : decode (cod 200) 33 = .ok (.if_icmp .eq 11, 3) := by decide +kernel
theorem d200_36 : decode (cod 200) 36 = .ok (.iload_n 3, 1) := by decide +kernel
theorem d200_37 : decode (cod 200) 37 = .ok (.invokestatic 195, 3) := by decide +kernel
theorem d200_40 : decode (cod 200) 40 = .ok (.istore_n 3, 1) := by decide +kernel
theorem d200_41 : decode (cod 200) 41 = .ok (.goto (-15), 3) := by decide +kernel
theorem d200_44 : decode (cod 200) 44 = .ok (.iload_n 3, 1) := by decide +kernel
theorem d200_45 : decode (cod 200) 45 = .ok (.iload_n 2, 1) := by decide +kernel
theorem d200_46 : decode (cod 200) 46 = .ok (.if_icmp .ne 12, 3) := by decide +kernel
theorem d200_49 : decode (cod 200) 49 = .ok (.aload_n 0, 1) := by decide +kernel
theorem d200_50 : decode (cod 200) 50 = .ok (.iload_n 1, 1) := by decide +kernel
theorem d200_51 : decode (cod 200) 51 = .ok (.iconst 3, 1) := by decide +kernel
theorem d200_52 : decode (cod 200) 52 = .ok (.invokevirtual 104, 3) := by decide +kernel
theorem d200_55 : decode (cod 200) 55 = .ok (.goto 5, 3) := by decide +kernel
theorem d200_58 : decode (cod 200) 58 = .ok (.bipush (-6), 2) := by decide +kernel
theorem d200_60 : decode (cod 200) 60 = .ok (.ireturn, 1) := by decide +kernel
theorem d201_0 : decode (cod 201) 0 = .ok (.iload_n 1, 1) := by decide +kernel
theorem d201_1 : decode (cod 201) 1 = .ok (.ifCond .ge 28, 3) := by decide +kernel
theorem d201_4 : decode (cod 201) 4 = .ok (.aload_n 0, 1) := by decide +kernel
theorem d201_5 : decode (cod 201) 5 = .ok (.getfield 13, 3) := by decide +kernel
theorem d201_8 : decode (cod 201) 8 = .ok (.sipush 1792, 3) := by decide +kernel
theorem d201_11 : decode (cod 201) 11 = .ok (.bipush 10, 2) := by decide +kernel
theorem d201_13 : decode (cod 201) 13 = .ok (.iload_n 2, 1) := by decide +kernel
theorem d201_14 : decode (cod 201) 14 = .ok (.imul, 1) := by decide +kernel
theorem d201_15 : decode (cod 201) 15 = .ok (.iadd, 1) := by decide +kernel
theorem d201_16 : decode (cod 201) 16 = .ok (.iload_n 3, 1) := by decide +kernel
theorem d201_17 : decode (cod 201) 17 = .ok (.iadd, 1) := by decide +kernel
theorem d201_18 : decode (cod 201) 18 = .ok (.iaload, 1) := by decide +kernel
theorem d201_19 : decode (cod 201) 19 = .ok (.iconst 1, 1) := by decide +kernel
theorem d201_20 : decode (cod 201) 20 = .ok (.if_icmp .ne 7, 3) := by decide +kernel
theorem d201_23 : decode (cod 201) 23 = .ok (.iconst 1, 1) := by decide +kernel
theorem d201_24 : decode (cod 201) 24 = .ok (.goto 4, 3) := by decide +kernel
theorem d201_27 : decode (cod 201) 27 = .ok (.iconst 0, 1) := by decide +kernel
theorem d201_28 : decode (cod 201) 28 = .ok (.ireturn, 1) := by decide +kernel
theorem d201_29 : decode (cod 201) 29 = .ok (.iconst 0, 1) := by decide +kernel
theorem d201_30 : decode (cod 201) 30 = .ok (.istore 4, 2) := by decide +kernel
theorem d201_32 : decode (cod 201) 32 = .ok (.iload 4, 2) := by decide +kernel
theorem d201_34 : decode (cod 201) 34 = .ok (.aload_n 0, 1) := by decide +kernel
theorem d201_35 : decode (cod 201) 35 = .ok (.getfield 13, 3) := by decide +kernel
theorem d201_38 : decode (cod 201) 38 = .ok (.iconst 5, 1) := by decide +kernel
theorem d201_39 : decode (cod 201) 39 = .ok (.iaload, 1) := by decide +kernel
theorem d201_40 : decode (cod 201) 40 = .ok (.if_icmp .ge 41, 3) := by decide +kernel
theorem d201_43 : decode (cod 201) 43 = .ok (.iload_n 1, 1) := by decide +kernel
theorem d201_44 : decode (cod 201) 44 = .ok (.iload 4, 2) := by decide +kernel
theorem d201_46 : decode (cod 201) 46 = .ok (.ishr, 1) := by decide +kernel
theorem d201_47 : decode (cod 201) 47 = .ok (.iconst 1, 1) := by decide +kernel
theorem d201_48 : decode (cod 201) 48 = .ok (.iand, 1) := by decide +kernel
theorem d201_49 : decode (cod 201) 49 = .ok (.iconst 1, 1) := by decide +kernel
theorem d201_50 : decode (cod 201) 50 = .ok (.if_icmp .ne 25, 3) := by decide +kernel
theorem d201_53 : decode (cod 201) 53 = .ok (.aload_n 0, 1) := by decide +kernel
theorem d201_54 : decode (cod 201) 54 = .ok (.getfield 13, 3) := by decide +kernel
theorem d201_57 : decode (cod 201) 57 = .ok (.sipush 1892, 3) := by decide +kernel
theorem d201_60 : decode (cod 201) 60 = .ok (.iload 4, 2) := by decide +kernel
theorem d201_62 : decode (cod 201) 62 = .ok (.iadd, 1) := by decide +kernel
theorem d201_63 : decode (cod 201) 63 = .ok (.iaload, 1) := by decide +kernel
theorem d201_64 : decode (cod 201) 64 = .ok (.bipush 10, 2) := by decide +kernel
theorem d201_66 : decode (cod 201) 66 = .ok (.iload_n 2, 1) := by decide +kernel
theorem d201_67 : decode (cod 201) 67 = .ok (.imul, 1) := by decide +kernel
theorem d201_68 : decode (cod 201) 68 = .ok (.iload_n 3, 1) := by decide +kernel
theorem d201_69 : decode (cod 201) 69 = .ok (.iadd, 1) := by decide +kernel
theorem d201_70 : decode (cod 201) 70 = .ok (.if_icmp .ne 5, 3) := by decide +kernel
theorem d201_73 : decode (cod 201) 73 = .ok (.iconst 1, 1) := by decide +kernel
theorem d201_74 : decode (cod 201) 74 = .ok (.ireturn, 1) := by decide +kernel
theorem d201_75 : decode (cod 201) 75 = .ok (.iinc 4 1, 3) := by decide +kernel
theorem d201_78 : decode (cod 201) 78 = .ok (.goto (-46), 3) := by decide +kernel
theorem d201_81 : decode (cod 201) 81 = .ok (.iconst 0, 1) := by decide +kernel
theorem d201_82 : decode (cod 201) 82 = .ok (.ireturn, 1) := by decide +kernel
theorem d202_0 : decode (cod 202) 0 = .ok (.iload_n 3, 1) := by decide +kernel
theorem d202_1 : decode (cod 202) 1 = .ok (.istore 5, 2) := by decide +kernel
theorem d202_3 : decode (cod 202) 3 = .ok (.iload 5, 2) := by decide +kernel
theorem d202_5 : decode (cod 202) 5 = .ok (.iload 4, 2) := by decide +kernel
theorem d202_7 : decode (cod 202) 7 = .ok (.if_icmp .gt 22, 3) := by decide +kernel
theorem d202_10 : decode (cod 202) 10 = .ok (.aload_n 0, 1) := by decide +kernel
theorem d202_11 : decode (cod 202) 11 = .ok (.iload_n 1, 1) := by decide +kernel
theorem d202_12 : decode (cod 202) 12 = .ok (.iload_n 2, 1) := by decide +kernel
theorem d202_13 : decode (cod 202) 13 = .ok (.iload 5, 2) := by decide +kernel
theorem d202_15 : decode (cod 202) 15 = .ok (.invokevirtual 198, 3) := by decide +kernel
theorem d202_18 : decode (cod 202) 18 = .ok (.ifCond .eq 5, 3) := by decide +kernel
theorem d202_21 : decode (cod 202) 21 = .ok (.iconst 0, 1) := by decide +kernel
theorem d202_22 : decode (cod 202) 22 = .ok (.ireturn, 1) := by decide +kernel
theorem d202_23 : decode (cod 202) 23 = .ok (.iinc 5 1, 3) := by decide +kernel
theorem d202_26 : decode (cod 202) 26 = .ok (.goto (-23), 3) := by decide +kernel
theorem d202_29 : decode (cod 202) 29 = .ok (.iconst 1, 1) := by decide +kernel
theorem d202_30 : decode (cod 202) 30 = .ok (.ireturn, 1) := by decide +kernel
theorem d203_0 : decode (cod 203) 0 = .ok (.aload_n 0, 1) := by decide +kernel
theorem d203_1 : decode (cod 203) 1 = .ok (.iload_n 1, 1) := by decide +kernel
theorem d203_2 : decode (cod 203) 2 = .ok (.aload_n 0, 1) := by decide +kernel
theorem d203_3 : decode (cod 203) 3 = .ok (.iload_n 2, 1) := by decide +kernel
theorem d203_4 : decode (cod 203) 4 = .ok (.iconst 0, 1) := by decide +kernel
theorem d203_5 : decode (cod 203) 5 = .ok (.invokevirtual 51, 3) := by decide +kernel
theorem d203_8 : decode (cod 203) 8 = .ok (.iconst 0, 1) := by decide +kernel
theorem d203_9 : decode (cod 203) 9 = .ok (.aload_n 0, 1) := by decide +kernel
theorem d203_10 : decode (cod 203) 10 = .ok (.iload_n 2, 1) := by decide +kernel
theorem d203_11 : decode (cod 203) 11 = .ok (.iconst 1, 1) := by decide +kernel
theorem d203_12 : decode (cod 203) 12 = .ok (.invokevirtual 51, 3) := by decide +kernel
theorem d203_15 : decode (cod 203) 15 = .ok (.invokevirtual 201, 3) := by decide +kernel
theorem d203_18 : decode (cod 203) 18 = .ok (.ireturn, 1) := by decide +kernel
theorem d204_0 : decode (cod 204) 0 = .ok (.aload_n 0, 1) := by decide +kernel
theorem d204_1 : decode (cod 204) 1 = .ok (.iload_n 2, 1) := by decide +kernel
theorem d204_2 : decode (cod 204) 2 = .ok (.iconst 1, 1) := by decide +kernel
theorem d204_3 : decode (cod 204) 3 = .ok (.invokevirtual 51, 3) := by decide +kernel
theorem d204_6 : decode (cod 204) 6 = .ok (.istore 4, 2) := by decide +kernel
theorem d204_8 : decode (cod 204) 8 = .ok (.aload_n 0, 1) := by decide +kernel
theorem d204_9 : decode (cod 204) 9 = .ok (.iload_n 3, 1) := by decide +kernel
theorem d204_10 : decode (cod 204) 10 = .ok (.iconst 1, 1) := by decide +kernel
theorem d204_11 : decode (cod 204) 11 = .ok (.invokevirtual 51, 3) := by decide +kernel
theorem d204_14 : decode (cod 204) 14 = .ok (.istore 5, 2) := by decide +kernel
theorem d204_16 : decode (cod 204) 16 = .ok (.aload_n 0, 1) := by decide +kernel
theorem d204_17 : decode (cod 204) 17 = .ok (.iload_n 1, 1) := by decide +kernel
theorem d204_18 : decode (cod 204) 18 = .ok (.aload_n 0, 1) := by decide +kernel
theorem d204_19 : decode (cod 204) 19 = .ok (.iload_n 2, 1) := by decide +kernel
theorem d204_20 : decode (cod 204) 20 = .ok (.iconst 0, 1) := by decide +kernel
theorem d204_21 : decode (cod 204) 21 = .ok (.invokevirtual 51, 3) := by decide +kernel
theorem d204_24 : decode (cod 204) 24 = .ok (.iload 4, 2) := by decide +kernel
theorem d204_26 : decode (cod 204) 26 = .ok (.iload 5, 2) := by decide +kernel
theorem d204_28 : decode (cod 204) 28 = .ok (.if_icmp .ge 8, 3) := by decide +kernel
theorem d204_31 : decode (cod 204) 31 = .ok (.iload 4, 2) := by decide +kernel
theorem d204_33 : decode (cod 204) 33 = .ok (.goto 5, 3) := by decide +kernel
theorem d204_36 : decode (cod 204) 36 = .ok (.iload 5, 2) := by decide +kernel
theorem d204_38 : decode (cod 204) 38 = .ok (.iconst 1, 1) := by decide +kernel
theorem d204_39 : decode (cod 204) 39 = .ok (.iadd, 1) := by decide +kernel
theorem d204_40 : decode (cod 204) 40 = .ok (.iload 4, 2) := by decide +kernel
theorem d204_42 : decode (cod 204) 42 = .ok (.iload 5, 2) := by decide +kernel
theorem d204_44 : decode (cod 204) 44 = .ok (.if_icmp .ge 8, 3) := by decide +kernel
theorem d204_47 : decode (cod 204) 47 = .ok (.iload 5, 2) := by decide +kernel
theorem d204_49 : decode (cod 204) 49 = .ok (.goto 5, 3) := by decide +kernel
theorem d204_52 : decode (cod 204) 52 = .ok (.iload 4, 2) := by decide +kernel
theorem d204_54 : decode (cod 204) 54 = .ok (.invokevirtual 201, 3) := by decide +kernel
theorem d204_57 : decode (cod 204) 57 = .ok (.ireturn, 1) := by decide +kernel
theorem d205_0 : decode (cod 205) 0 = .ok (.iload_n 3, 1) := by decide +kernel
theorem d205_1 : decode (cod 205) 1 = .ok (.bipush 12, 2) := by decide +kernel
theorem d205_3 : decode (cod 205) 3 = .ok (.if_icmp .ne 10, 3) := by decide +kernel
theorem d205_6 : decode (cod 205) 6 = .ok (.aload_n 0, 1) := by decide +kernel
theorem d205_7 : decode (cod 205) 7 = .ok (.iload_n 1, 1) := by decide +kernel
theorem d205_8 : decode (cod 205) 8 = .ok (.iload_n 2, 1) := by decide +kernel
theorem d205_9 : decode (cod 205) 9 = .ok (.invokevirtual 205, 3) := by decide +kernel
theorem d205_12 : decode (cod 205) 12 = .ok (.ireturn, 1) := by decide +kernel
theorem d205_13 : decode (cod 205) 13 = .ok (.aload_n 0, 1) := by decide +kernel
theorem d205_14 : decode (cod 205) 14 = .ok (.iload_n 2, 1) := by decide +kernel
theorem d205_15 : decode (cod 205) 15 = .ok (.iconst 0, 1) := by decide +kernel
theorem d205_16 : decode (cod 205) 16 = .ok (.invokevirtual 51, 3) := by decide +kernel
theorem d205_19 : decode (cod 205) 19 = .ok (.aload_n 0, 1) := by decide +kernel
theorem d205_20 : decode (cod 205) 20 = .ok (.iload_n 3, 1) := by decide +kernel
theorem d205_21 : decode (cod 205) 21 = .ok (.iconst 0, 1) := by decide +kernel
theorem d205_22 : decode (cod 205) 22 = .ok (.invokevirtual 51, 3) := by decide +kernel
theorem d205_25 : decode (cod 205) 25 = .ok (.if_icmp .ne 13, 3) := by decide +kernel
theorem d205_28 : decode (cod 205) 28 = .ok (.aload_n 0, 1) := by decide +kernel
theorem d205_29 : decode (cod 205) 29 = .ok (.iload_n 1, 1) := by decide +kernel
theorem d205_30 : decode (cod 205) 30 = .ok (.iload_n 2, 1) := by decide +kernel
theorem d205_31 : decode (cod 205) 31 = .ok (.iload_n 3, 1) := by decide +kernel
theorem d205_32 : decode (cod 205) 32 = .ok (.invokevirtual 208, 3) := by decide +kernel
theorem d205_35 : decode (cod 205) 35 = .ok (.goto 26, 3) := by decide +kernel
theorem d205_38 : decode (cod 205) 38 = .ok (.aload_n 0, 1) := by decide +kernel
theorem d205_39 : decode (cod 205) 39 = .ok (.iload_n 1, 1) := by decide +kernel
theorem d205_40 : decode (cod 205) 40 = .ok (.iload_n 2, 1) := by decide +kernel
theorem d205_41 : decode (cod 205) 41 = .ok (.invokevirtual 205, 3) := by decide +kernel
theorem d205_44 : decode (cod 205) 44 = .ok (.ifCond .eq 16, 3) := by decide +kernel
theorem d205_47 : decode (cod 205) 47 = .ok (.aload_n 0, 1) := by decide +kernel
theorem d205_48 : decode (cod 205) 48 = .ok (.iload_n 1, 1) := by decide +kernel
theorem d205_49 : decode (cod 205) 49 = .ok (.iload_n 3, 1) := by decide +kernel
theorem d205_50 : decode (cod 205) 50 = .ok (.invokevirtual 205, 3) := by decide +kernel
theorem d205_53 : decode (cod 205) 53 = .ok (.ifCond .eq 7, 3) := by decide +kernel
theorem d205_56 : decode (cod 205) 56 = .ok (.iconst 1, 1) := by decide +kernel
theorem d205_57 : decode (cod 205) 57 = .ok (.goto 4, 3) := by decide +kernel
theorem d205_60 : decode (cod 205) 60 = .ok (.iconst 0, 1) := by decide +kernel
theorem d205_61 : decode (cod 205) 61 = .ok (.ireturn, 1) := by decide +kernel
theorem d206_0 : decode (cod 206) 0 = .ok (.iconst 0, 1) := by decide +kernel
theorem d206_1 : decode (cod 206) 1 = .ok (.istore_n 2, 1) := by decide +kernel
theorem d206_2 : decode (cod 206) 2 = .ok (.iconst 0, 1) := by decide +kernel
theorem d206_3 : decode (cod 206) 3 = .ok (.istore_n 3, 1) := by decide +kernel
theorem d206_4 : decode (cod 206) 4 = .ok (.iload_n 3, 1) := by decide +kernel
theorem d206_5 : decode (cod 206) 5 = .ok (.aload_n 0, 1) := by decide +kernel
theorem d206_6 : decode (cod 206) 6 = .ok (.getfield 13, 3) := by decide +kernel
theorem d206_9 : decode (cod 206) 9 = .ok (.iconst 2, 1) := by decide +kernel
theorem d206_10 : decode (cod 206) 10 = .ok (.iaload, 1) := by decide +kernel
theorem d206_11 : decode (cod 206) 11 = .ok (.if_icmp .ge 75, 3) := by decide +kernel
theorem d206_14 : decode (cod 206) 14 = .ok (.aload_n 0, 1) := by decide +kernel
theorem d206_15 : decode (cod 206) 15 = .ok (.iload_n 3, 1) := by decide +kernel
theorem d206_16 : decode (cod 206) 16 = .ok (.iconst 5, 1) := by decide +kernel
theorem d206_17 : decode (cod 206) 17 = .ok (.invokevirtual 104, 3) := by decide +kernel
theorem d206_20 : decode (cod 206) 20 = .ok (.iconst 1, 1) := by decide +kernel
theorem d206_21 : decode (cod 206) 21 = .ok (.if_icmp .eq 6, 3) := by decide +kernel
theorem d206_24 : decode (cod 206) 24 = .ok (.goto 56, 3) := by decide +kernel
theorem d206_27 : decode (cod 206) 27 = .ok (.iconst 0, 1) := by decide +kernel
theorem d206_28 : decode (cod 206) 28 = .ok (.istore 4, 2) := by decide +kernel
theorem d206_30 : decode (cod 206) 30 = .ok (.iload 4, 2) := by decide +kernel
theorem d206_32 : decode (cod 206) 32 = .ok (.iconst 4, 1) := by decide +kernel
theorem d206_33 : decode (cod 206) 33 = .ok (.if_icmp .ge 31, 3) := by decide +kernel
theorem d206_36 : decode (cod 206) 36 = .ok (.aload_n 0, 1) := by decide +kernel
theorem d206_37 : decode (cod 206) 37 = .ok (.iload_n 3, 1) := by decide +kernel
theorem d206_38 : decode (cod 206) 38 = .ok (.iload 4, 2) := by decide +kernel
theorem d206_40 : decode (cod 206) 40 = .ok (.invokevirtual 211, 3) := by decide +kernel
theorem d206_43 : decode (cod 206) 43 = .ok (.ifCond .eq 15, 3) := by decide +kernel
theorem d206_46 : decode (cod 206) 46 = .ok (.aload_n 0, 1) := by decide +kernel
theorem d206_47 : decode (cod 206) 47 = .ok (.iload_n 1, 1) := by decide +kernel
theorem d206_48 : decode (cod 206) 48 = .ok (.iload 4, 2) := by decide +kernel
theorem d206_50 : decode (cod 206) 50 = .ok (.invokevirtual 211, 3) := by decide +kernel
theorem d206_53 : decode (cod 206) 53 = .ok (.ifCond .eq 5, 3) := by decide +kernel
theorem d206_56 : decode (cod 206) 56 = .ok (.iconst 0, 1) := by decide +kernel
theorem d206_57 : decode (cod 206) 57 = .ok (.ireturn, 1) := by decide +kernel
theorem d206_58 : decode (cod 206) 58 = .ok (.iinc 4 1, 3) := by decide +kernel
theorem d206_61 : decode (cod 206) 61 = .ok (.goto (-31), 3) := by decide +kernel
theorem d206_64 : decode (cod 206) 64 = .ok (.iload_n 2, 1) := by decide +kernel
theorem d206_65 : decode (cod 206) 65 = .ok (.aload_n 0, 1) := by decide +kernel
theorem d206_66 : decode (cod 206) 66 = .ok (.iload_n 3, 1) := by decide +kernel
theorem d206_67 : decode (cod 206) 67 = .ok (.invokevirtual 189, 3) := by decide +kernel
theorem d206_70 : decode (cod 206) 70 = .ok (.ifCond .eq 7, 3) := by decide +kernel
theorem d206_73 : decode (cod 206) 73 = .ok (.iconst 1, 1) := by decide +kernel
theorem d206_74 : decode (cod 206) 74 = .ok (.goto 4, 3) := by decide +kernel
theorem d206_77 : decode (cod 206) 77 = .ok (.iconst 0, 1) := by decide +kernel
theorem d206_78 : decode (cod 206) 78 = .ok (.iadd, 1) := by decide +kernel
theorem d206_79 : decode (cod 206) 79 = .ok (.istore_n 2, 1) := by decide +kernel
theorem d206_80 : decode (cod 206) 80 = .ok (.iinc 3 1, 3) := by decide +kernel
theorem d206_83 : decode (cod 206) 83 = .ok (.goto (-79), 3) := by decide +kernel
theorem d206_86 : decode (cod 206) 86 = .ok (.aload_n 0, 1) := by decide +kernel
theorem d206_87 : decode (cod 206) 87 = .ok (.iload_n 1, 1) := by decide +kernel
theorem d206_88 : decode (cod 206) 88 = .ok (.invokevirtual 189, 3) := by decide +kernel
theorem d206_91 : decode (cod 206) 91 = .ok (.ifCond .eq 17, 3) := by decide +kernel
theorem d206_94 : decode (cod 206) 94 = .ok (.iload_n 2, 1) := by decide +kernel
theorem d206_95 : decode (cod 206) 95 = .ok (.aload_n 0, 1) := by decide +kernel
theorem d206_96 : decode (cod 206) 96 = .ok (.iconst 4, 1) := by decide +kernel
theorem d206_97 : decode (cod 206) 97 = .ok (.iconst (-1), 1) := by decide +kernel
theorem d206_98 : decode (cod 206) 98 = .ok (.aload_n 0, 1) := by decide +kernel
theorem d206_99 : decode (cod 206) 99 = .ok (.invokevirtual 44, 3) := by decide +kernel
theorem d206_102 : decode (cod 206) 102 = .ok (.invokevirtual 164, 3) := by decide +kernel
theorem d206_105 : decode (cod 206) 105 = .ok (.if_icmp .ge 7, 3) := by decide +kernel
theorem d206_108 : decode (cod 206) 108 = .ok (.iconst 1, 1) := by decide +kernel
theorem d206_109 : decode (cod 206) 109 = .ok (.goto 4, 3) := by decide +kernel
theorem d206_112 : decode (cod 206) 112 = .ok (.iconst 0, 1) := by decide +kernel
theorem d206_113 : decode (cod 206) 113 = .ok (.ireturn, 1) := by decide +kernel
theorem d207_0 : decode (cod 207) 0 = .ok (.iconst 0, 1) := by decide +kernel
theorem d207_1 : decode (cod 207) 1 = .ok (.istore_n 1, 1) := by decide +kernel
theorem d207_2 : decode (cod 207) 2 = .ok (.iload_n 1, 1) := by decide +kernel
theorem d207_3 : decode (cod 207) 3 = .ok (.aload_n 0, 1) := by decide +kernel
theorem d207_4 : decode (cod 207) 4 = .ok (.getfield 13, 3) := by decide +kernel
theorem d207_7 : decode (cod 207) 7 = .ok (.iconst 2, 1) := by decide +kernel
theorem d207_8 : decode (cod 207) 8 = .ok (.iaload, 1) := by decide +kernel
theorem d207_9 : decode (cod 207) 9 = .ok (.if_icmp .ge 102, 3) := by decide +kernel
theorem d207_12 : decode (cod 207) 12 = .ok (.aload_n 0, 1) := by decide +kernel
theorem d207_13 : decode (cod 207) 13 = .ok (.iload_n 1, 1) := by decide +kernel
theorem d207_14 : decode (cod 207) 14 = .ok (.iconst 5, 1) := by decide +kernel
theorem d207_15 : decode (cod 207) 15 = .ok (.invokevirtual 104, 3) := by decide +kernel
theorem d207_18 : decode (cod 207) 18 = .ok (.iconst 1, 1) := by decide +kernel
theorem d207_19 : decode (cod 207) 19 = .ok (.if_icmp .ne 42, 3) := by decide +kernel
theorem d207_22 : decode (cod 207) 22 = .ok (.aload_n 0, 1) := by decide +kernel
theorem d207_23 : decode (cod 207) 23 = .ok (.getfield 13, 3) := by decide +kernel
theorem d207_26 : decode (cod 207) 26 = .ok (.iconst 3, 1) := by decide +kernel
theorem d207_27 : decode (cod 207) 27 = .ok (.iaload, 1) := by decide +kernel
theorem d207_28 : decode (cod 207) 28 = .ok (.aload_n 0, 1) := by decide +kernel
theorem d207_29 : decode (cod 207) 29 = .ok (.iload_n 1, 1) := by decide +kernel
theorem d207_30 : decode (cod 207) 30 = .ok (.bipush 6, 2) := by decide +kernel
theorem d207_32 : decode (cod 207) 32 = .ok (.invokevirtual 104, 3) := by decide +kernel
theorem d207_35 : decode (cod 207) 35 = .ok (.aload_n 0, 1) := by decide +kernel
theorem d207_36 : decode (cod 207) 36 = .ok (.iload_n 1, 1) := by decide +kernel
theorem d207_37 : decode (cod 207) 37 = .ok (.iconst 3, 1) := by decide +kernel
theorem d207_38 : decode (cod 207) 38 = .ok (.invokevirtual 104, 3) := by decide +kernel
theorem d207_41 : decode (cod 207) 41 = .ok (.iadd, 1) := by decide +kernel
theorem d207_42 : decode (cod 207) 42 = .ok (.if_icmp .lt 19, 3) := by decide +kernel
theorem d207_45 : decode (cod 207) 45 = .ok (.aload_n 0, 1) := by decide +kernel
theorem d207_46 : decode (cod 207) 46 = .ok (.getfield 13, 3) := by decide +kernel
theorem d207_49 : decode (cod 207) 49 = .ok (.sipush 1312, 3) := by decide +kernel
theorem d207_52 : decode (cod 207) 52 = .ok (.bipush 8, 2) := by decide +kernel
theorem d207_54 : decode (cod 207) 54 = .ok (.iload_n 1, 1) := by decide +kernel
theorem d207_55 : decode (cod 207) 55 = .ok (.imul, 1) := by decide +kernel
theorem d207_56 : decode (cod 207) 56 = .ok (.iadd, 1) := by decide +kernel
theorem d207_57 : decode (cod 207) 57 = .ok (.iconst 5, 1) := by decide +kernel
theorem d207_58 : decode (cod 207) 58 = .ok (.iadd, 1) := by decide +kernel
theorem d207_59 : decode (cod 207) 59 = .ok (.iconst 2, 1) := by decide +kernel
theorem d207_60 : decode (cod 207) 60 = .ok (.iastore, 1) := by decide +kernel
theorem d207_61 : decode (cod 207) 61 = .ok (.aload_n 0, 1) := by decide +kernel
theorem d207_62 : decode (cod 207) 62 = .ok (.getfield 23, 3) := by decide +kernel
theorem d207_65 : decode (cod 207) 65 = .ok (.iload_n 1, 1) := by decide +kernel
theorem d207_66 : decode (cod 207) 66 = .ok (.aload_n 0, 1) := by decide +kernel
theorem d207_67 : decode (cod 207) 67 = .ok (.iload_n 1, 1) := by decide +kernel
theorem d207_68 : decode (cod 207) 68 = .ok (.iconst 5, 1) := by decide +kernel
theorem d207_69 : decode (cod 207) 69 = .ok (.invokevirtual 104, 3) := by decide +kernel
theorem d207_72 : decode (cod 207) 72 = .ok (.ifCond .eq 7, 3) := by decide +kernel
theorem d207_75 : decode (cod 207) 75 = .ok (.iconst 1, 1) := by decide +kernel
theorem d207_76 : decode (cod 207) 76 = .ok (.goto 4, 3) := by decide +kernel
theorem d207_79 : decode (cod 207) 79 = .ok (.iconst 0, 1) := by decide +kernel
theorem d207_80 : decode (cod 207) 80 = .ok (.bastore, 1) := by decide +kernel
theorem d207_81 : decode (cod 207) 81 = .ok (.aload_n 0, 1) := by decide +kernel
theorem d207_82 : decode (cod 207) 82 = .ok (.getfield 27, 3) := by decide +kernel
theorem d207_85 : decode (cod 207) 85 = .ok (.iload_n 1, 1) := by decide +kernel
theorem d207_86 : decode (cod 207) 86 = .ok (.aload_n 0, 1) := by decide +kernel
theorem d207_87 : decode (cod 207) 87 = .ok (.getfield 23, 3) := by decide +kernel
theorem d207_90 : decode (cod 207) 90 = .ok (.iload_n 1, 1) := by decide +kernel
theorem d207_91 : decode (cod 207) 91 = .ok (.baload, 1) := by decide +kernel
theorem d207_92 : decode (cod 207) 92 = .ok (.ifCond .eq 7, 3) := by decide +kernel
theorem d207_95 : decode (cod 207) 95 = .ok (.iconst 0, 1) := by decide +kernel
theorem d207_96 : decode (cod 207) 96 = .ok (.goto 8, 3) := by decide +kernel
theorem d207_99 : decode (cod 207) 99 = .ok (.aload_n 0, 1) := by decide +kernel
theorem d207_100 : decode (cod 207) 100 = .ok (.iload_n 1, 1) := by decide +kernel
theorem d207_101 : decode (cod 207) 101 = .ok (.invokevirtual 180, 3) := by decide +kernel
theorem d207_104 : decode (cod 207) 104 = .ok (.iastore, 1) := by decide +kernel
theorem d207_105 : decode (cod 207) 105 = .ok (.iinc 1 1, 3) := by decide +kernel
theorem d207_108 : decode (cod 207) 108 = .ok (.goto (-106), 3) := by decide +kernel
theorem d207_111 : decode (cod 207) 111 = .ok (.aload_n 0, 1) := by decide +kernel
theorem d207_112 : decode (cod 207) 112 = .ok (.invokevirtual 214, 3) := by decide +kernel
theorem d207_115 : decode (cod 207) 115 = .ok (.istore_n 1, 1) := by decide +kernel
theorem d207_116 : decode (cod 207) 116 = .ok (.iload_n 1, 1) := by decide +kernel
theorem d207_117 : decode (cod 207) 117 = .ok (.iconst (-1), 1) := by decide +kernel
theorem d207_118 : decode (cod 207) 118 = .ok (.if_icmp .eq 103, 3) := by decide +kernel
theorem d207_121 : decode (cod 207) 121 = .ok (.aload_n 0, 1) := by decide +kernel
theorem d207_122 : decode (cod 207) 122 = .ok (.getfield 23, 3) := by decide +kernel
theorem d207_125 : decode (cod 207) 125 = .ok (.iload_n 1, 1) := by decide +kernel
theorem d207_126 : decode (cod 207) 126 = .ok (.iconst 1, 1) := by decide +kernel
theorem d207_127 : decode (cod 207) 127 = .ok (.bastore, 1) := by decide +kernel
theorem d207_128 : decode (cod 207) 128 = .ok (.aload_n 0, 1) := by decide +kernel
theorem d207_129 : decode (cod 207) 129 = .ok (.iconst (-1), 1) := by decide +kernel
theorem d207_130 : decode (cod 207) 130 = .ok (.aload_n 0, 1) := by decide +kernel
theorem d207_131 : decode (cod 207) 131 = .ok (.iload_n 1, 1) := by decide +kernel
theorem d207_132 : decode (cod 207) 132 = .ok (.iconst 1, 1) := by decide +kernel
theorem d207_133 : decode (cod 207) 133 = .ok (.invokevirtual 104, 3) := by decide +kernel
theorem d207_136 : decode (cod 207) 136 = .ok (.aload_n 0, 1) := by decide +kernel
theorem d207_137 : decode (cod 207) 137 = .ok (.iload_n 1, 1) := by decide +kernel
theorem d207_138 : decode (cod 207) 138 = .ok (.iconst 2, 1) := by decide +kernel
theorem d207_139 : decode (cod 207) 139 = .ok (.invokevirtual 104, 3) := by decide +kernel
theorem d207_142 : decode (cod 207) 142 = .ok (.invokevirtual 217, 3) := by decide +kernel
theorem d207_145 : decode (cod 207) 145 = .ok (.ifCond .ne 22, 3) := by decide +kernel
theorem d207_148 : decode (cod 207) 148 = .ok (.aload_n 0, 1) := by decide +kernel
theorem d207_149 : decode (cod 207) 149 = .ok (.getfield 13, 3) := by decide +kernel
theorem d207_152 : decode (cod 207) 152 = .ok (.sipush 1312, 3) := by decide +kernel
theorem d207_155 : decode (cod 207) 155 = .ok (.bipush 8, 2) := by decide +kernel
theorem d207_157 : decode (cod 207) 157 = .ok (.iload_n 1, 1) := by decide +kernel
theorem d207_158 : decode (cod 207) 158 = .ok (.imul, 1) := by decide +kernel
theorem d207_159 : decode (cod 207) 159 = .ok (.iadd, 1) := by decide +kernel
theorem d207_160 : decode (cod 207) 160 = .ok (.iconst 5, 1) := by decide +kernel
theorem d207_161 : decode (cod 207) 161 = .ok (.iadd, 1) := by decide +kernel
theorem d207_162 : decode (cod 207) 162 = .ok (.iconst 3, 1) := by decide +kernel
theorem d207_163 : decode (cod 207) 163 = .ok (.iastore, 1) := by decide +kernel
theorem d207_164 : decode (cod 207) 164 = .ok (.goto 49, 3) := by decide +kernel
theorem d207_167 : decode (cod 207) 167 = .ok (.aload_n 0, 1) := by decide +kernel
theorem d207_168 : decode (cod 207) 168 = .ok (.iload_n 1, 1) := by decide +kernel
theorem d207_169 : decode (cod 207) 169 = .ok (.invokevirtual 220, 3) := by decide +kernel
theorem d207_172 : decode (cod 207) 172 = .ok (.ifCond .eq 41, 3) := by decide +kernel
theorem d207_175 : decode (cod 207) 175 = .ok (.aload_n 0, 1) := by decide +kernel
theorem d207_176 : decode (cod 207) 176 = .ok (.getfield 13, 3) := by decide +kernel
theorem d207_179 : decode (cod 207) 179 = .ok (.sipush 1312, 3) := by decide +kernel
theorem d207_182 : decode (cod 207) 182 = .ok (.bipush 8, 2) := by decide +kernel
theorem d207_184 : decode (cod 207) 184 = .ok (.iload_n 1, 1) := by decide +kernel
theorem d207_185 : decode (cod 207) 185 = .ok (.imul, 1) := by decide +kernel
theorem d207_186 : decode (cod 207) 186 = .ok (.iadd, 1) := by decide +kernel
theorem d207_187 : decode (cod 207) 187 = .ok (.iconst 5, 1) := by decide +kernel
theorem d207_188 : decode (cod 207) 188 = .ok (.iadd, 1) := by decide +kernel
theorem d207_189 : decode (cod 207) 189 = .ok (.iconst 1, 1) := by decide +kernel
theorem d207_190 : decode (cod 207) 190 = .ok (.iastore, 1) := by decide +kernel
theorem d207_191 : decode (cod 207) 191 = .ok (.aload_n 0, 1) := by decide +kernel
theorem d207_192 : decode (cod 207) 192 = .ok (.getfield 13, 3) := by decide +kernel
theorem d207_195 : decode (cod 207) 195 = .ok (.sipush 1312, 3) := by decide +kernel
theorem d207_198 : decode (cod 207) 198 = .ok (.bipush 8, 2) := by decide +kernel
theorem d207_200 : decode (cod 207) 200 = .ok (.iload_n 1, 1) := by decide +kernel
theorem d207_201 : decode (cod 207) 201 = .ok (.imul, 1) := by decide +kernel
theorem d207_202 : decode (cod 207) 202 = .ok (.iadd, 1) := by decide +kernel
theorem d207_203 : decode (cod 207) 203 = .ok (.bipush 6, 2) := by decide +kernel
theorem d207_205 : decode (cod 207) 205 = .ok (.iadd, 1) := by decide +kernel
theorem d207_206 : decode (cod 207) 206 = .ok (.aload_n 0, 1) := by decide +kernel
theorem d207_207 : decode (cod 207) 207 = .ok (.getfield 13, 3) := by decide +kernel
theorem d207_210 : decode (cod 207) 210 = .ok (.iconst 3, 1) := by decide +kernel
theorem d207_211 : decode (cod 207) 211 = .ok (.iaload, 1) := by decide +kernel
theorem d207_212 : decode (cod 207) 212 = .ok (.iastore, 1) := by decide +kernel
theorem d207_213 : decode (cod 207) 213 = .ok (.aload_n 0, 1) := by decide +kernel
theorem d207_214 : decode (cod 207) 214 = .ok (.invokevirtual 214, 3) := by decide +kernel
theorem d207_217 : decode (cod 207) 217 = .ok (.istore_n 1, 1) := by decide +kernel
theorem d207_218 : decode (cod 207) 218 = .ok (.goto (-102), 3) := by decide +kernel
theorem d207_221 : decode (cod 207) 221 = .ok (.iconst 0, 1) := by decide +kernel
theorem d207_222 : decode (cod 207) 222 = .ok (.istore_n 2, 1) := by decide +kernel
theorem d207_223 : decode (cod 207) 223 = .ok (.iload_n 2, 1) := by decide +kernel
theorem d207_224 : decode (cod 207) 224 = .ok (.aload_n 0, 1) := by decide +kernel
theorem d207_225 : decode (cod 207) 225 = .ok (.getfield 13, 3) := by decide +kernel
theorem d207_228 : decode (cod 207) 228 = .ok (.iconst 2, 1) := by decide +kernel
theorem d207_229 : decode (cod 207) 229 = .ok (.iaload, 1) := by decide +kernel
theorem d207_230 : decode (cod 207) 230 = .ok (.if_icmp .ge 52, 3) := by decide +kernel
theorem d207_233 : decode (cod 207) 233 = .ok (.aload_n 0, 1) := by decide +kernel
theorem d207_234 : decode (cod 207) 234 = .ok (.iload_n 2, 1) := by decide +kernel
theorem d207_235 : decode (cod 207) 235 = .ok (.iconst 5, 1) := by decide +kernel
theorem d207_236 : decode (cod 207) 236 = .ok (.invokevirtual 104, 3) := by decide +kernel
theorem d207_239 : decode (cod 207) 239 = .ok (.ifCond .ne 37, 3) := by decide +kernel
theorem d207_242 : decode (cod 207) 242 = .ok (.aload_n 0, 1) := by decide +kernel
theorem d207_243 : decode (cod 207) 243 = .ok (.getfield 13, 3) := by decide +kernel
theorem d207_246 : decode (cod 207) 246 = .ok (.iconst 3, 1) := by decide +kernel
theorem d207_247 : decode (cod 207) 247 = .ok (.iaload, 1) := by decide +kernel
theorem d207_248 : decode (cod 207) 248 = .ok (.aload_n 0, 1) := by decide +kernel
theorem d207_249 : decode (cod 207) 249 = .ok (.iload_n 2, 1) := by decide +kernel
theorem d207_250 : decode (cod 207) 250 = .ok (.iconst 4, 1) := by decide +kernel
theorem d207_251 : decode (cod 207) 251 = .ok (.invokevirtual 104, 3) := by decide +kernel
theorem d207_254 : decode (cod 207) 254 = .ok (.isub, 1) := by decide +kernel
theorem d207_255 : decode (cod 207) 255 = .ok (.bipush 30, 2) := by decide +kernel
theorem d207_257 : decode (cod 207) 257 = .ok (.if_icmp .lt 19, 3) := by decide +kernel
theorem d207_260 : decode (cod 207) 260 = .ok (.aload_n 0, 1) := by decide +kernel
theorem d207_261 : decode (cod 207) 261 = .ok (.getfield 13, 3) := by decide +kernel
theorem d207_264 : decode (cod 207) 264 = .ok (.sipush 1312, 3) := by decide +kernel
theorem d207_267 : decode (cod 207) 267 = .ok (.bipush 8, 2) := by decide +kernel
theorem d207_269 : decode (cod 207) 269 = .ok (.iload_n 2, 1) := by decide +kernel
theorem d207_270 : decode (cod 207) 270 = .ok (.imul, 1) := by decide +kernel
theorem d207_271 : decode (cod 207) 271 = .ok (.iadd, 1) := by decide +kernel
theorem d207_272 : decode (cod 207) 272 = .ok (.iconst 5, 1) := by decide +kernel
theorem d207_273 : decode (cod 207) 273 = .ok (.iadd, 1) := by decide +kernel
theorem d207_274 : decode (cod 207) 274 = .ok (.iconst 3, 1) := by decide +kernel
theorem d207_275 : decode (cod 207) 275 = .ok (.iastore, 1) := by decide +kernel
theorem d207_276 : decode (cod 207) 276 = .ok (.iinc 2 1, 3) := by decide +kernel
theorem d207_279 : decode (cod 207) 279 = .ok (.goto (-56), 3) := by decide +kernel
theorem d207_282 : decode (cod 207) 282 = .ok (.aload_n 0, 1) := by decide +kernel
theorem d207_283 : decode (cod 207) 283 = .ok (.getfield 13, 3) := by decide +kernel
theorem d207_286 : decode (cod 207) 286 = .ok (.iconst 3, 1) := by decide +kernel
theorem d207_287 : decode (cod 207) 287 = .ok (.dup2, 1) := by decide +kernel
theorem d207_288 : decode (cod 207) 288 = .ok (.iaload, 1) := by decide +kernel
theorem d207_289 : decode (cod 207) 289 = .ok (.iconst 1, 1) := by decide +kernel
theorem d207_290 : decode (cod 207) 290 = .ok (.iadd, 1) := by decide +kernel
theorem d207_291 : decode (cod 207) 291 = .ok (.iastore, 1) := by decide +kernel
theorem d207_292 : decode (cod 207) 292 = .ok (.return_, 1) := by decide +kernel
theorem d208_0 : decode (cod 208) 0 = .ok (.iconst (-1), 1) := by decide +kernel
theorem d208_1 : decode (cod 208) 1 = .ok (.istore_n 1, 1) := by decide +kernel
theorem d208_2 : decode (cod 208) 2 = .ok (.iconst 0, 1) := by decide +kernel
theorem d208_3 : decode (cod 208) 3 = .ok (.istore_n 2, 1) := by decide +kernel
theorem d208_4 : decode (cod 208) 4 = .ok (.iload_n 2, 1) := by decide +kernel
theorem d208_5 : decode (cod 208) 5 = .ok (.aload_n 0, 1) := by decide +kernel
theorem d208_6 : decode (cod 208) 6 = .ok (.getfield 13, 3) := by decide +kernel
theorem d208_9 : decode (cod 208) 9 = .ok (.iconst 2, 1) := by decide +kernel
theorem d208_10 : decode (cod 208) 10 = .ok (.iaload, 1) := by decide +kernel
theorem d208_11 : decode (cod 208) 11 = .ok (.if_icmp .ge 40, 3) := by decide +kernel
theorem d208_14 : decode (cod 208) 14 = .ok (.aload_n 0, 1) := by decide +kernel
theorem d208_15 : decode (cod 208) 15 = .ok (.getfield 23, 3) := by decide +kernel
theorem d208_18 : decode (cod 208) 18 = .ok (.iload_n 2, 1) := by decide +kernel
theorem d208_19 : decode (cod 208) 19 = .ok (.baload, 1) := by decide +kernel
theorem d208_20 : decode (cod 208) 20 = .ok (.ifCond .ne 25, 3) := by decide +kernel
theorem d208_23 : decode (cod 208) 23 = .ok (.iload_n 1, 1) := by decide +kernel
theorem d208_24 : decode (cod 208) 24 = .ok (.iconst (-1), 1) := by decide +kernel
theorem d208_25 : decode (cod 208) 25 = .ok (.if_icmp .eq 18, 3) := by decide +kernel
theorem d208_28 : decode (cod 208) 28 = .ok (.aload_n 0, 1) := by decide +kernel
theorem d208_29 : decode (cod 208) 29 = .ok (.getfield 27, 3) := by decide +kernel
theorem d208_32 : decode (cod 208) 32 = .ok (.iload_n 2, 1) := by decide +kernel
theorem d208_33 : decode (cod 208) 33 = .ok (.iaload, 1) := by decide +kernel
theorem d208_34 : decode (cod 208) 34 = .ok (.aload_n 0, 1) := by decide +kernel
theorem d208_35 : decode (cod 208) 35 = .ok (.getfield 27, 3) := by decide +kernel
theorem d208_38 : decode (cod 208) 38 = .ok (.iload_n 1, 1) := by decide +kernel
theorem d208_39 : decode (cod 208) 39 = .ok (.iaload, 1) := by decide +kernel
theorem d208_40 : decode (cod 208) 40 = .ok (.if_icmp .ge 5, 3) := by decide +kernel
theorem d208_43 : decode (cod 208) 43 = .ok (.iload_n 2, 1) := by decide +kernel
theorem d208_44 : decode (cod 208) 44 = .ok (.istore_n 1, 1) := by decide +kernel
theorem d208_45 : decode (cod 208) 45 = .ok (.iinc 2 1, 3) := by decide +kernel
theorem d208_48 : decode (cod 208) 48 = .ok (.goto (-44), 3) := by decide +kernel
theorem d208_51 : decode (cod 208) 51 = .ok (.iload_n 1, 1) := by decide +kernel
theorem d208_52 : decode (cod 208) 52 = .ok (.ireturn, 1) := by decide +kernel
theorem d209_0 : decode (cod 209) 0 = .ok (.iload_n 1, 1) := by decide +kernel
theorem d209_1 : decode (cod 209) 1 = .ok (.iconst 1, 1) := by decide +kernel
theorem d209_2 : decode (cod 209) 2 = .ok (.sipush 200, 3) := by decide +kernel
theorem d209_5 : decode (cod 209) 5 = .ok (.invokestatic 36, 3) := by decide +kernel
theorem d209_8 : decode (cod 209) 8 = .ok (.ifCond .eq 16, 3) := by decide +kernel
theorem d209_11 : decode (cod 209) 11 = .ok (.aload_n 0, 1) := by decide +kernel
theorem d209_12 : decode (cod 209) 12 = .ok (.getfield 13, 3) := by decide +kernel
theorem d209_15 : decode (cod 209) 15 = .ok (.iconst 3, 1) := by decide +kernel
theorem d209_16 : decode (cod 209) 16 = .ok (.iaload, 1) := by decide +kernel
theorem d209_17 : decode (cod 209) 17 = .ok (.iload_n 1, 1) := by decide +kernel
theorem d209_18 : decode (cod 209) 18 = .ok (.iadd, 1) := by decide +kernel
theorem d209_19 : decode (cod 209) 19 = .ok (.ldc 223, 2) := by decide +kernel
theorem d209_21 : decode (cod 209) 21 = .ok (.if_icmp .le 6, 3) := by decide +kernel
theorem d209_24 : decode (cod 209) 24 = .ok (.bipush (-2), 2) := by decide +kernel
theorem d209_26 : decode (cod 209) 26 = .ok (.ireturn, 1) := by decide +kernel
theorem d209_27 : decode (cod 209) 27 = .ok (.iconst 0, 1) := by decide +kernel
theorem d209_28 : decode (cod 209) 28 = .ok (.istore_n 2, 1) := by decide +kernel
theorem d209_29 : decode (cod 209) 29 = .ok (.iload_n 2, 1) := by decide +kernel
theorem d209_30 : decode (cod 209) 30 = .ok (.iload_n 1, 1) := by decide +kernel
theorem d209_31 : decode (cod 209) 31 = .ok (.if_icmp .ge 13, 3) := by decide +kernel
theorem d209_34 : decode (cod 209) 34 = .ok (.aload_n 0, 1) := by decide +kernel
theorem d209_35 : decode (cod 209) 35 = .ok (.invokevirtual 224, 3) := by decide +kernel
theorem d209_38 : decode (cod 209) 38 = .ok (.iinc 2 1, 3) := by decide +kernel
theorem d209_41 : decode (cod 209) 41 = .ok (.goto (-12), 3) := by decide +kernel
theorem d209_44 : decode (cod 209) 44 = .ok (.aload_n 0, 1) := by decide +kernel
theorem d209_45 : decode (cod 209) 45 = .ok (.getfield 13, 3) := by decide +kernel
theorem d209_48 : decode (cod 209) 48 = .ok (.iconst 3, 1) := by decide +kernel
theorem d209_49 : decode (cod 209) 49 = .ok (.iaload, 1) := by decide +kernel
theorem d209_50 : decode (cod 209) 50 = .ok (.ireturn, 1) := by decide +kernel
theorem d210_0 : decode (cod 210) 0 = .ok (.iload_n 2, 1) := by decide +kernel
theorem d210_1 : decode (cod 210) 1 = .ok (.iconst 0, 1) := by decide +kernel
theorem d210_2 : decode (cod 210) 2 = .ok (.iconst 1, 1) := by decide +kernel
theorem d210_3 : decode (cod 210) 3 = .ok (.invokestatic 36, 3) := by decide +kernel
theorem d210_6 : decode (cod 210) 6 = .ok (.ifCond .eq 14, 3) := by decide +kernel
theorem d210_9 : decode (cod 210) 9 = .ok (.iload_n 2, 1) := by decide +kernel
theorem d210_10 : decode (cod 210) 10 = .ok (.ifCond .ne 12, 3) := by decide +kernel
theorem d210_13 : decode (cod 210) 13 = .ok (.iload_n 1, 1) := by decide +kernel
theorem d210_14 : decode (cod 210) 14 = .ok (.invokestatic 40, 3) := by decide +kernel
theorem d210_17 : decode (cod 210) 17 = .ok (.ifCond .ne 5, 3) := by decide +kernel
theorem d210_20 : decode (cod 210) 20 = .ok (.iconst (-1), 1) := by decide +kernel
theorem d210_21 : decode (cod 210) 21 = .ok (.ireturn, 1) := by decide +kernel
theorem d210_22 : decode (cod 210) 22 = .ok (.iconst 0, 1) := by decide +kernel
theorem d210_23 : decode (cod 210) 23 = .ok (.istore_n 3, 1) := by decide +kernel
theorem d210_24 : decode (cod 210) 24 = .ok (.iconst 0, 1) := by decide +kernel
theorem d210_25 : decode (cod 210) 25 = .ok (.istore 4, 2) := by decide +kernel
theorem d210_27 : decode (cod 210) 27 = .ok (.iload 4, 2) := by decide +kernel
theorem d210_29 : decode (cod 210) 29 = .ok (.aload_n 0, 1) := by decide +kernel
theorem d210_30 : decode (cod 210) 30 = .ok (.getfield 13, 3) := by decide +kernel
theorem d210_33 : decode (cod 210) 33 = .ok (.iconst 2, 1) := by decide +kernel
theorem d210_34 : decode (cod 210) 34 = .ok (.iaload, 1) := by decide +kernel
theorem d210_35 : decode (cod 210) 35 = .ok (.if_icmp .ge 57, 3) := by decide +kernel
theorem d210_38 : decode (cod 210) 38 = .ok (.aload_n 0, 1) := by decide +kernel
theorem d210_39 : decode (cod 210) 39 = .ok (.iload 4, 2) := by decide +kernel
theorem d210_41 : decode (cod 210) 41 = .ok (.iconst 5, 1) := by decide +kernel
theorem d210_42 : decode (cod 210) 42 = .ok (.invokevirtual 104, 3) := by decide +kernel
theorem d210_45 : decode (cod 210) 45 = .ok (.iconst 1, 1) := by decide +kernel
theorem d210_46 : decode (cod 210) 46 = .ok (.if_icmp .eq 6, 3) := by decide +kernel
theorem d210_49 : decode (cod 210) 49 = .ok (.goto 37, 3) := by decide +kernel
theorem d210_52 : decode (cod 210) 52 = .ok (.iload_n 2, 1) := by decide +kernel
theorem d210_53 : decode (cod 210) 53 = .ok (.ifCond .ne 16, 3) := by decide +kernel
theorem d210_56 : decode (cod 210) 56 = .ok (.aload_n 0, 1) := by decide +kernel
theorem d210_57 : decode (cod 210) 57 = .ok (.iload 4, 2) := by decide +kernel
theorem d210_59 : decode (cod 210) 59 = .ok (.iload_n 1, 1) := by decide +kernel
theorem d210_60 : decode (cod 210) 60 = .ok (.invokevirtual 211, 3) := by decide +kernel
theorem d210_63 : decode (cod 210) 63 = .ok (.ifCond .eq 6, 3) := by decide +kernel
theorem d210_66 : decode (cod 210) 66 = .ok (.iload 4, 2) := by decide +kernel
theorem d210_68 : decode (cod 210) 68 = .ok (.ireturn, 1) := by decide +kernel
theorem d210_69 : decode (cod 210) 69 = .ok (.iload_n 3, 1) := by decide +kernel
theorem d210_70 : decode (cod 210) 70 = .ok (.aload_n 0, 1) := by decide +kernel
theorem d210_71 : decode (cod 210) 71 = .ok (.iload 4, 2) := by decide +kernel
theorem d210_73 : decode (cod 210) 73 = .ok (.invokevirtual 189, 3) := by decide +kernel
theorem d210_76 : decode (cod 210) 76 = .ok (.ifCond .eq 7, 3) := by decide +kernel
theorem d210_79 : decode (cod 210) 79 = .ok (.iconst 1, 1) := by decide +kernel
theorem d210_80 : decode (cod 210) 80 = .ok (.goto 4, 3) := by decide +kernel
theorem d210_83 : decode (cod 210) 83 = .ok (.iconst 0, 1) := by decide +kernel
theorem d210_84 : decode (cod 210) 84 = .ok (.iadd, 1) := by decide +kernel
theorem d210_85 : decode (cod 210) 85 = .ok (.istore_n 3, 1) := by decide +kernel
theorem d210_86 : decode (cod 210) 86 = .ok (.iinc 4 1, 3) := by decide +kernel
theorem d210_89 : decode (cod 210) 89 = .ok (.goto (-62), 3) := by decide +kernel
theorem d210_92 : decode (cod 210) 92 = .ok (.iload_n 2, 1) := by decide +kernel
theorem d210_93 : decode (cod 210) 93 = .ok (.ifCond .ne 7, 3) := by decide +kernel
theorem d210_96 : decode (cod 210) 96 = .ok (.iconst (-1), 1) := by decide +kernel
theorem d210_97 : decode (cod 210) 97 = .ok (.goto 4, 3) := by decide +kernel
theorem d210_100 : decode (cod 210) 100 = .ok (.iload_n 3, 1) := by decide +kernel
theorem d210_101 : decode (cod 210) 101 = .ok (.ireturn, 1) := by decide +kernel
theorem d211_0 : decode (cod 211) 0 = .ok (.aload_n 0, 1) := by decide +kernel
theorem d211_1 : decode (cod 211) 1 = .ok (.iload_n 1, 1) := by decide +kernel
theorem d211_2 : decode (cod 211) 2 = .ok (.iconst 0, 1) := by decide +kernel
theorem d211_3 : decode (cod 211) 3 = .ok (.invokevirtual 104, 3) := by decide +kernel
theorem d211_6 : decode (cod 211) 6 = .ok (.iconst 4, 1) := by decide +kernel
theorem d211_7 : decode (cod 211) 7 = .ok (.if_icmp .ne 13, 3) := by decide +kernel
theorem d211_10 : decode (cod 211) 10 = .ok (.aload_n 0, 1) := by decide +kernel
theorem d211_11 : decode (cod 211) 11 = .ok (.aload_n 0, 1) := by decide +kernel
theorem d211_12 : decode (cod 211) 12 = .ok (.iload_n 1, 1) := by decide +kernel
theorem d211_13 : decode (cod 211) 13 = .ok (.invokevirtual 174, 3) := by decide +kernel
theorem d211_16 : decode (cod 211) 16 = .ok (.invokevirtual 186, 3) := by decide +kernel
theorem d211_19 : decode (cod 211) 19 = .ok (.ireturn, 1) := by decide +kernel
theorem d211_20 : decode (cod 211) 20 = .ok (.iconst 1, 1) := by decide +kernel
theorem d211_21 : decode (cod 211) 21 = .ok (.aload_n 0, 1) := by decide +kernel
theorem d211_22 : decode (cod 211) 22 = .ok (.iload_n 1, 1) := by decide +kernel
theorem d211_23 : decode (cod 211) 23 = .ok (.iconst 1, 1) := by decide +kernel
theorem d211_24 : decode (cod 211) 24 = .ok (.invokevirtual 104, 3) := by decide +kernel
theorem d211_27 : decode (cod 211) 27 = .ok (.ishl, 1) := by decide +kernel
theorem d211_28 : decode (cod 211) 28 = .ok (.aload_n 0, 1) := by decide +kernel
theorem d211_29 : decode (cod 211) 29 = .ok (.iload_n 1, 1) := by decide +kernel
theorem d211_30 : decode (cod 211) 30 = .ok (.iconst 2, 1) := by decide +kernel
theorem d211_31 : decode (cod 211) 31 = .ok (.invokevirtual 104, 3) := by decide +kernel
theorem d211_34 : decode (cod 211) 34 = .ok (.bipush 12, 2) := by decide +kernel
theorem d211_36 : decode (cod 211) 36 = .ok (.if_icmp .ne 7, 3) := by decide +kernel
theorem d211_39 : decode (cod 211) 39 = .ok (.iconst 0, 1) := by decide +kernel
theorem d211_40 : decode (cod 211) 40 = .ok (.goto 11, 3) := by decide +kernel
theorem d211_43 : decode (cod 211) 43 = .ok (.iconst 1, 1) := by decide +kernel
theorem d211_44 : decode (cod 211) 44 = .ok (.aload_n 0, 1) := by decide +kernel
theorem d211_45 : decode (cod 211) 45 = .ok (.iload_n 1, 1) := by decide +kernel
theorem d211_46 : decode (cod 211) 46 = .ok (.iconst 2, 1) := by decide +kernel
theorem d211_47 : decode (cod 211) 47 = .ok (.invokevirtual 104, 3) := by decide +kernel
theorem d211_50 : decode (cod 211) 50 = .ok (.ishl, 1) := by decide +kernel
theorem d211_51 : decode (cod 211) 51 = .ok (.ior, 1) := by decide +kernel
theorem d211_52 : decode (cod 211) 52 = .ok (.ireturn, 1) := by decide +kernel
theorem d212_0 : decode (cod 212) 0 = .ok (.aload_n 0, 1) := by decide +kernel
theorem d212_1 : decode (cod 212) 1 = .ok (.iload_n 1, 1) := by decide +kernel
theorem d212_2 : decode (cod 212) 2 = .ok (.invokevirtual 48, 3) := by decide +kernel
theorem d212_5 : decode (cod 212) 5 = .ok (.ifCond .eq 11, 3) := by decide +kernel
theorem d212_8 : decode (cod 212) 8 = .ok (.aload_n 0, 1) := by decide +kernel
theorem d212_9 : decode (cod 212) 9 = .ok (.iload_n 2, 1) := by decide +kernel
theorem d212_10 : decode (cod 212) 10 = .ok (.invokevirtual 157, 3) := by decide +kernel
theorem d212_13 : decode (cod 212) 13 = .ok (.ifCond .ne 5, 3) := by decide +kernel
theorem d212_16 : decode (cod 212) 16 = .ok (.iconst (-1), 1) := by decide +kernel
theorem d212_17 : decode (cod 212) 17 = .ok (.ireturn, 1) := by decide +kernel
theorem d212_18 : decode (cod 212) 18 = .ok (.aload_n 0, 1) := by decide +kernel
theorem d212_19 : decode (cod 212) 19 = .ok (.iload_n 2, 1) := by decide +kernel
theorem d212_20 : decode (cod 212) 20 = .ok (.iconst 5, 1) := by decide +kernel
theorem d212_21 : decode (cod 212) 21 = .ok (.invokevirtual 104, 3) := by decide +kernel
theorem d212_24 : decode (cod 212) 24 = .ok (.iconst 1, 1) := by decide +kernel
theorem d212_25 : decode (cod 212) 25 = .ok (.if_icmp .ne 38, 3) := by decide +kernel
theorem d212_28 : decode (cod 212) 28 = .ok (.aload_n 0, 1) := by decide +kernel
theorem d212_29 : decode (cod 212) 29 = .ok (.iload_n 2, 1) := by decide +kernel
theorem d212_30 : decode (cod 212) 30 = .ok (.invokevirtual 227, 3) := by decide +kernel
theorem d212_33 : decode (cod 212) 33 = .ok (.aload_n 0, 1) := by decide +kernel
theorem d212_34 : decode (cod 212) 34 = .ok (.iload_n 2, 1) := by decide +kernel
theorem d212_35 : decode (cod 212) 35 = .ok (.bipush 7, 2) := by decide +kernel
theorem d212_37 : decode (cod 212) 37 = .ok (.invokevirtual 104, 3) := by decide +kernel
theorem d212_40 : decode (cod 212) 40 = .ok (.ior, 1) := by decide +kernel
theorem d212_41 : decode (cod 212) 41 = .ok (.iload_n 1, 1) := by decide +kernel
theorem d212_42 : decode (cod 212) 42 = .ok (.ishr, 1) := by decide +kernel
theorem d212_43 : decode (cod 212) 43 = .ok (.iconst 1, 1) := by decide +kernel
theorem d212_44 : decode (cod 212) 44 = .ok (.iand, 1) := by decide +kernel
theorem d212_45 : decode (cod 212) 45 = .ok (.iconst 1, 1) := by decide +kernel
theorem d212_46 : decode (cod 212) 46 = .ok (.if_icmp .eq 17, 3) := by decide +kernel
theorem d212_49 : decode (cod 212) 49 = .ok (.aload_n 0, 1) := by decide +kernel
theorem d212_50 : decode (cod 212) 50 = .ok (.iload_n 2, 1) := by decide +kernel
theorem d212_51 : decode (cod 212) 51 = .ok (.aload_n 0, 1) := by decide +kernel
theorem d212_52 : decode (cod 212) 52 = .ok (.iload_n 1, 1) := by decide +kernel
theorem d212_53 : decode (cod 212) 53 = .ok (.iconst 0, 1) := by decide +kernel
theorem d212_54 : decode (cod 212) 54 = .ok (.invokevirtual 51, 3) := by decide +kernel
theorem d212_57 : decode (cod 212) 57 = .ok (.invokevirtual 211, 3) := by decide +kernel
theorem d212_60 : decode (cod 212) 60 = .ok (.ifCond .ne 6, 3) := by decide +kernel
theorem d212_63 : decode (cod 212) 63 = .ok (.bipush (-3), 2) := by decide +kernel
theorem d212_65 : decode (cod 212) 65 = .ok (.ireturn, 1) := by decide +kernel
theorem d212_66 : decode (cod 212) 66 = .ok (.aload_n 0, 1) := by decide +kernel
theorem d212_67 : decode (cod 212) 67 = .ok (.getfield 13, 3) := by decide +kernel
theorem d212_70 : decode (cod 212) 70 = .ok (.sipush 1312, 3) := by decide +kernel
theorem d212_73 : decode (cod 212) 73 = .ok (.bipush 8, 2) := by decide +kernel
theorem d212_75 : decode (cod 212) 75 = .ok (.iload_n 2, 1) := by decide +kernel
theorem d212_76 : decode (cod 212) 76 = .ok (.imul, 1) := by decide +kernel
theorem d212_77 : decode (cod 212) 77 = .ok (.iadd, 1) := by decide +kernel
theorem d212_78 : decode (cod 212) 78 = .ok (.bipush 7, 2) := by decide +kernel
theorem d212_80 : decode (cod 212) 80 = .ok (.iadd, 1) := by decide +kernel
theorem d212_81 : decode (cod 212) 81 = .ok (.dup2, 1) := by decide +kernel
theorem d212_82 : decode (cod 212) 82 = .ok (.iaload, 1) := by decide +kernel
theorem d212_83 : decode (cod 212) 83 = .ok (.iconst 1, 1) := by decide +kernel
theorem d212_84 : decode (cod 212) 84 = .ok (.iload_n 1, 1) := by decide +kernel
theorem d212_85 : decode (cod 212) 85 = .ok (.ishl, 1) := by decide +kernel
theorem d212_86 : decode (cod 212) 86 = .ok (.ior, 1) := by decide +kernel
theorem d212_87 : decode (cod 212) 87 = .ok (.iastore, 1) := by decide +kernel
theorem d212_88 : decode (cod 212) 88 = .ok (.aload_n 0, 1) := by decide +kernel
theorem d212_89 : decode (cod 212) 89 = .ok (.iload_n 2, 1) := by decide +kernel
theorem d212_90 : decode (cod 212) 90 = .ok (.bipush 7, 2) := by decide +kernel
theorem d212_92 : decode (cod 212) 92 = .ok (.invokevirtual 104, 3) := by decide +kernel
theorem d212_95 : decode (cod 212) 95 = .ok (.invokestatic 55, 3) := by decide +kernel
theorem d212_98 : decode (cod 212) 98 = .ok (.ireturn, 1) := by decide +kernel
theorem d213_0 : decode (cod 213) 0 = .ok (.aload_n 0, 1) := by decide +kernel
theorem d213_1 : decode (cod 213) 1 = .ok (.iload_n 1, 1) := by decide +kernel
theorem d213_2 : decode (cod 213) 2 = .ok (.invokevirtual 157, 3) := by decide +kernel
theorem d213_5 : decode (cod 213) 5 = .ok (.ifCond .ne 5, 3) := by decide +kernel
theorem d213_8 : decode (cod 213) 8 = .ok (.iconst (-1), 1) := by decide +kernel
theorem d213_9 : decode (cod 213) 9 = .ok (.ireturn, 1) := by decide +kernel
theorem d213_10 : decode (cod 213) 10 = .ok (.aload_n 0, 1) := by decide +kernel
theorem d213_11 : decode (cod 213) 11 = .ok (.iload_n 1, 1) := by decide +kernel
theorem d213_12 : decode (cod 213) 12 = .ok (.iconst 5, 1) := by decide +kernel
theorem d213_13 : decode (cod 213) 13 = .ok (.invokevirtual 104, 3) := by decide +kernel
theorem d213_16 : decode (cod 213) 16 = .ok (.ifCond .eq 13, 3) := by decide +kernel
theorem d213_19 : decode (cod 213) 19 = .ok (.aload_n 0, 1) := by decide +kernel
theorem d213_20 : decode (cod 213) 20 = .ok (.iload_n 1, 1) := by decide +kernel
theorem d213_21 : decode (cod 213) 21 = .ok (.iconst 5, 1) := by decide +kernel
theorem d213_22 : decode (cod 213) 22 = .ok (.invokevirtual 104, 3) := by decide +kernel
theorem d213_25 : decode (cod 213) 25 = .ok (.iconst 3, 1) := by decide +kernel
theorem d213_26 : decode (cod 213) 26 = .ok (.if_icmp .ne 7, 3) := by decide +kernel
theorem d213_29 : decode (cod 213) 29 = .ok (.iconst 0, 1) := by decide +kernel
theorem d213_30 : decode (cod 213) 30 = .ok (.goto 16, 3) := by decide +kernel
theorem d213_33 : decode (cod 213) 33 = .ok (.aload_n 0, 1) := by decide +kernel
theorem d213_34 : decode (cod 213) 34 = .ok (.iload_n 1, 1) := by decide +kernel
theorem d213_35 : decode (cod 213) 35 = .ok (.invokevirtual 227, 3) := by decide +kernel
theorem d213_38 : decode (cod 213) 38 = .ok (.aload_n 0, 1) := by decide +kernel
theorem d213_39 : decode (cod 213) 39 = .ok (.iload_n 1, 1) := by decide +kernel
theorem d213_40 : decode (cod 213) 40 = .ok (.bipush 7, 2) := by decide +kernel
theorem d213_42 : decode (cod 213) 42 = .ok (.invokevirtual 104, 3) := by decide +kernel
theorem d213_45 : decode (cod 213) 45 = .ok (.ior, 1) := by decide +kernel
theorem d213_46 : decode (cod 213) 46 = .ok (.ireturn, 1) := by decide +kernel
theorem d214_0 : decode (cod 214) 0 = .ok (.iload_n 0, 1) := by decide +kernel
theorem d214_1 : decode (cod 214) 1 = .ok (.invokestatic 40, 3) := by decide +kernel
theorem d214_4 : decode (cod 214) 4 = .ok (.ifCond .eq 17, 3) := by decide +kernel
theorem d214_7 : decode (cod 214) 7 = .ok (.iload_n 1, 1) := by decide +kernel
theorem d214_8 : decode (cod 214) 8 = .ok (.iconst 0, 1) := by decide +kernel
theorem d214_9 : decode (cod 214) 9 = .ok (.bipush 9, 2) := by decide +kernel
theorem d214_11 : decode (cod 214) 11 = .ok (.invokestatic 36, 3) := by decide +kernel
theorem d214_14 : decode (cod 214) 14 = .ok (.ifCond .eq 7, 3) := by decide +kernel
theorem d214_17 : decode (cod 214) 17 = .ok (.iconst 1, 1) := by decide +kernel
theorem d214_18 : decode (cod 214) 18 = .ok (.goto 4, 3) := by decide +kernel
theorem d214_21 : decode (cod 214) 21 = .ok (.iconst 0, 1) := by decide +kernel
theorem d214_22 : decode (cod 214) 22 = .ok (.ireturn, 1) := by decide +kernel
theorem d215_0 : decode (cod 215) 0 = .ok (.iload_n 1, 1) := by decide +kernel
theorem d215_1 : decode (cod 215) 1 = .ok (.iload_n 2, 1) := by decide +kernel
theorem d215_2 : decode (cod 215) 2 = .ok (.invokestatic 230, 3) := by decide +kernel
theorem d215_5 : decode (cod 215) 5 = .ok (.ifCond .ne 5, 3) := by decide +kernel
theorem d215_8 : decode (cod 215) 8 = .ok (.iconst (-1), 1) := by decide +kernel
theorem d215_9 : decode (cod 215) 9 = .ok (.ireturn, 1) := by decide +kernel
theorem d215_10 : decode (cod 215) 10 = .ok (.aload_n 0, 1) := by decide +kernel
theorem d215_11 : decode (cod 215) 11 = .ok (.getfield 13, 3) := by decide +kernel
theorem d215_14 : decode (cod 215) 14 = .ok (.sipush 1792, 3) := by decide +kernel
theorem d215_17 : decode (cod 215) 17 = .ok (.bipush 10, 2) := by decide +kernel
theorem d215_19 : decode (cod 215) 19 = .ok (.iload_n 1, 1) := by decide +kernel
theorem d215_20 : decode (cod 215) 20 = .ok (.imul, 1) := by decide +kernel
theorem d215_21 : decode (cod 215) 21 = .ok (.iadd, 1) := by decide +kernel
theorem d215_22 : decode (cod 215) 22 = .ok (.iload_n 2, 1) := by decide +kernel
theorem d215_23 : decode (cod 215) 23 = .ok (.iadd, 1) := by decide +kernel
theorem d215_24 : decode (cod 215) 24 = .ok (.iaload, 1) := by decide +kernel
theorem d215_25 : decode (cod 215) 25 = .ok (.istore 4, 2) := by decide +kernel
theorem d215_27 : decode (cod 215) 27 = .ok (.aload_n 0, 1) := by decide +kernel
theorem d215_28 : decode (cod 215) 28 = .ok (.getfield 13, 3) := by decide +kernel
theorem d215_31 : decode (cod 215) 31 = .ok (.sipush 1792, 3) := by decide +kernel
theorem d215_34 : decode (cod 215) 34 = .ok (.bipush 10, 2) := by decide +kernel
theorem d215_36 : decode (cod 215) 36 = .ok (.iload_n 1, 1) := by decide +kernel
theorem d215_37 : decode (cod 215) 37 = .ok (.imul, 1) := by decide +kernel
theorem d215_38 : decode (cod 215) 38 = .ok (.iadd, 1) := by decide +kernel
theorem d215_39 : decode (cod 215) 39 = .ok (.iload_n 2, 1) := by decide +kernel
theorem d215_40 : decode (cod 215) 40 = .ok (.iadd, 1) := by decide +kernel
theorem d215_41 : decode (cod 215) 41 = .ok (.iload_n 3, 1) := by decide +kernel
theorem d215_42 : decode (cod 215) 42 = .ok (.ifCond .eq 7, 3) := by decide +kernel
theorem d215_45 : decode (cod 215) 45 = .ok (.iconst 1, 1) := by decide +kernel
theorem d215_46 : decode (cod 215) 46 = .ok (.goto 4, 3) := by decide +kernel
theorem d215_49 : decode (cod 215) 49 = .ok (.iconst 0, 1) := by decide +kernel
theorem d215_50 : decode (cod 215) 50 = .ok (.iastore, 1) := by decide +kernel
theorem d215_51 : decode (cod 215) 51 = .ok (.iload 4, 2) := by decide +kernel
theorem d215_53 : decode (cod 215) 53 = .ok (.ireturn, 1) := by decide +kernel
theorem d216_0 : decode (cod 216) 0 = .ok (.aload_n 0, 1) := by decide +kernel
theorem d216_1 : decode (cod 216) 1 = .ok (.iload_n 1, 1) := by decide +kernel
theorem d216_2 : decode (cod 216) 2 = .ok (.invokevirtual 48, 3) := by decide +kernel
theorem d216_5 : decode (cod 216) 5 = .ok (.ifCond .ne 9, 3) := by decide +kernel
theorem d216_8 : decode (cod 216) 8 = .ok (.iload_n 1, 1) := by decide +kernel
theorem d216_9 : decode (cod 216) 9 = .ok (.bipush 12, 2) := by decide +kernel
theorem d216_11 : decode (cod 216) 11 = .ok (.if_icmp .ne 7, 3) := by decide +kernel
theorem d216_14 : decode (cod 216) 14 = .ok (.iconst 1, 1) := by decide +kernel
theorem d216_15 : decode (cod 216) 15 = .ok (.goto 4, 3) := by decide +kernel
theorem d216_18 : decode (cod 216) 18 = .ok (.iconst 0, 1) := by decide +kernel
theorem d216_19 : decode (cod 216) 19 = .ok (.ireturn, 1) := by decide +kernel
theorem d217_0 : decode (cod 217) 0 = .ok (.aload_n 0, 1) := by decide +kernel
theorem d217_1 : decode (cod 217) 1 = .ok (.iload_n 1, 1) := by decide +kernel
theorem d217_2 : decode (cod 217) 2 = .ok (.invokevirtual 48, 3) := by decide +kernel
theorem d217_5 : decode (cod 217) 5 = .ok (.ifCond .eq 29, 3) := by decide +kernel
theorem d217_8 : decode (cod 217) 8 = .ok (.aload_n 0, 1) := by decide +kernel
theorem d217_9 : decode (cod 217) 9 = .ok (.iload_n 2, 1) := by decide +kernel
theorem d217_10 : decode (cod 217) 10 = .ok (.invokevirtual 233, 3) := by decide +kernel
theorem d217_13 : decode (cod 217) 13 = .ok (.ifCond .eq 21, 3) := by decide +kernel
theorem d217_16 : decode (cod 217) 16 = .ok (.aload_n 0, 1) := by decide +kernel
theorem d217_17 : decode (cod 217) 17 = .ok (.iconst (-1), 1) := by decide +kernel
theorem d217_18 : decode (cod 217) 18 = .ok (.iload_n 1, 1) := by decide +kernel
theorem d217_19 : decode (cod 217) 19 = .ok (.iload_n 2, 1) := by decide +kernel
theorem d217_20 : decode (cod 217) 20 = .ok (.invokevirtual 217, 3) := by decide +kernel
theorem d217_23 : decode (cod 217) 23 = .ok (.ifCond .eq 7, 3) := by decide +kernel
theorem d217_26 : decode (cod 217) 26 = .ok (.iconst 1, 1) := by decide +kernel
theorem d217_27 : decode (cod 217) 27 = .ok (.goto 8, 3) := by decide +kernel
theorem d217_30 : decode (cod 217) 30 = .ok (.iconst 0, 1) := by decide +kernel
theorem d217_31 : decode (cod 217) 31 = .ok (.goto 4, 3) := by decide +kernel
theorem d217_34 : decode (cod 217) 34 = .ok (.iconst (-1), 1) := by decide +kernel
theorem d217_35 : decode (cod 217) 35 = .ok (.ireturn, 1) := by decide +kernel
theorem d218_0 : decode (cod 218) 0 = .ok (.aload_n 0, 1) := by decide +kernel
theorem d218_1 : decode (cod 218) 1 = .ok (.iload_n 1, 1) := by decide +kernel
theorem d218_2 : decode (cod 218) 2 = .ok (.invokevirtual 48, 3) := by decide +kernel
theorem d218_5 : decode (cod 218) 5 = .ok (.ifCond .eq 11, 3) := by decide +kernel
theorem d218_8 : decode (cod 218) 8 = .ok (.aload_n 0, 1) := by decide +kernel
theorem d218_9 : decode (cod 218) 9 = .ok (.iload_n 2, 1) := by decide +kernel
theorem d218_10 : decode (cod 218) 10 = .ok (.invokevirtual 233, 3) := by decide +kernel
theorem d218_13 : decode (cod 218) 13 = .ok (.ifCond .ne 5, 3) := by decide +kernel
theorem d218_16 : decode (cod 218) 16 = .ok (.iconst (-1), 1) := by decide +kernel
theorem d218_17 : decode (cod 218) 17 = .ok (.ireturn, 1) := by decide +kernel
theorem d218_18 : decode (cod 218) 18 = .ok (.iload_n 1, 1) := by decide +kernel
theorem d218_19 : decode (cod 218) 19 = .ok (.iload_n 2, 1) := by decide +kernel
theorem d218_20 : decode (cod 218) 20 = .ok (.if_icmp .ne 6, 3) := by decide +kernel
theorem d218_23 : decode (cod 218) 23 = .ok (.bipush (-2), 2) := by decide +kernel
theorem d218_25 : decode (cod 218) 25 = .ok (.ireturn, 1) := by decide +kernel
theorem d218_26 : decode (cod 218) 26 = .ok (.aload_n 0, 1) := by decide +kernel
theorem d218_27 : decode (cod 218) 27 = .ok (.getfield 13, 3) := by decide +kernel
theorem d218_30 : decode (cod 218) 30 = .ok (.iconst 4, 1) := by decide +kernel
theorem d218_31 : decode (cod 218) 31 = .ok (.iaload, 1) := by decide +kernel
theorem d218_32 : decode (cod 218) 32 = .ok (.bipush 20, 2) := by decide +kernel
theorem d218_34 : decode (cod 218) 34 = .ok (.if_icmp .ne 6, 3) := by decide +kernel
theorem d218_37 : decode (cod 218) 37 = .ok (.bipush (-4), 2) := by decide +kernel
theorem d218_39 : decode (cod 218) 39 = .ok (.ireturn, 1) := by decide +kernel
theorem d218_40 : decode (cod 218) 40 = .ok (.sipush 1832, 3) := by decide +kernel
theorem d218_43 : decode (cod 218) 43 = .ok (.iconst 3, 1) := by decide +kernel
theorem d218_44 : decode (cod 218) 44 = .ok (.aload_n 0, 1) := by decide +kernel
theorem d218_45 : decode (cod 218) 45 = .ok (.getfield 13, 3) := by decide +kernel
theorem d218_48 : decode (cod 218) 48 = .ok (.iconst 4, 1) := by decide +kernel
theorem d218_49 : decode (cod 218) 49 = .ok (.iaload, 1) := by decide +kernel
theorem d218_50 : decode (cod 218) 50 = .ok (.imul, 1) := by decide +kernel
theorem d218_51 : decode (cod 218) 51 = .ok (.iadd, 1) := by decide +kernel
theorem d218_52 : decode (cod 218) 52 = .ok (.istore 4, 2) := by decide +kernel
theorem d218_54 : decode (cod 218) 54 = .ok (.aload_n 0, 1) := by decide +kernel
theorem d218_55 : decode (cod 218) 55 = .ok (.getfield 13, 3) := by decide +kernel
theorem d218_58 : decode (cod 218) 58 = .ok (.iload 4, 2) := by decide +kernel
theorem d218_60 : decode (cod 218) 60 = .ok (.iload_n 1, 1) := by decide +kernel
theorem d218_61 : decode (cod 218) 61 = .ok (.iastore, 1) := by decide +kernel
theorem d218_62 : decode (cod 218) 62 = .ok (.aload_n 0, 1) := by decide +kernel
theorem d218_63 : decode (cod 218) 63 = .ok (.getfield 13, 3) := by decide +kernel
theorem d218_66 : decode (cod 218) 66 = .ok (.iload 4, 2) := by decide +kernel
theorem d218_68 : decode (cod 218) 68 = .ok (.iconst 1, 1) := by decide +kernel
theorem d218_69 : decode (cod 218) 69 = .ok (.iadd, 1) := by decide +kernel
theorem d218_70 : decode (cod 218) 70 = .ok (.iload_n 2, 1) := by decide +kernel
theorem d218_71 : decode (cod 218) 71 = .ok (.iastore, 1) := by decide +kernel
theorem d218_72 : decode (cod 218) 72 = .ok (.aload_n 0, 1) := by decide +kernel
theorem d218_73 : decode (cod 218) 73 = .ok (.getfield 13, 3) := by decide +kernel
theorem d218_76 : decode (cod 218) 76 = .ok (.iload 4, 2) := by decide +kernel
theorem d218_78 : decode (cod 218) 78 = .ok (.iconst 2, 1) := by decide +kernel
theorem d218_79 : decode (cod 218) 79 = .ok (.iadd, 1) := by decide +kernel
theorem d218_80 : decode (cod 218) 80 = .ok (.iload_n 3, 1) := by decide +kernel
theorem d218_81 : decode (cod 218) 81 = .ok (.ifCond .eq 7, 3) := by decide +kernel
theorem d218_84 : decode (cod 218) 84 = .ok (.iconst 1, 1) := by decide +kernel
theorem d218_85 : decode (cod 218) 85 = .ok (.goto 4, 3) := by decide +kernel
theorem d218_88 : decode (cod 218) 88 = .ok (.iconst 0, 1) := by decide +kernel
theorem d218_89 : decode (cod 218) 89 = .ok (.iastore, 1) := by decide +kernel
theorem d218_90 : decode (cod 218) 90 = .ok (.aload_n 0, 1) := by decide +kernel
theorem d218_91 : decode (cod 218) 91 = .ok (.getfield 13, 3) := by decide +kernel
theorem d218_94 : decode (cod 218) 94 = .ok (.iconst 4, 1) := by decide +kernel
theorem d218_95 : decode (cod 218) 95 = .ok (.dup2, 1) := by decide +kernel
theorem d218_96 : decode (cod 218) 96 = .ok (.iaload, 1) := by decide +kernel
theorem d218_97 : decode (cod 218) 97 = .ok (.iconst 1, 1) := by decide +kernel
theorem d218_98 : decode (cod 218) 98 = .ok (.iadd, 1) := by decide +kernel
theorem d218_99 : decode (cod 218) 99 = .ok (.iastore, 1) := by decide +kernel
theorem d218_100 : decode (cod 218) 100 = .ok (.aload_n 0, 1) := by decide +kernel
theorem d218_101 : decode (cod 218) 101 = .ok (.getfield 13, 3) := by decide +kernel
theorem d218_104 : decode (cod 218) 104 = .ok (.iconst 4, 1) := by decide +kernel
theorem d218_105 : decode (cod 218) 105 = .ok (.iaload, 1) := by decide +kernel
theorem d218_106 : decode (cod 218) 106 = .ok (.ireturn, 1) := by decide +kernel
theorem d219_0 : decode (cod 219) 0 = .ok (.iload_n 1, 1) := by decide +kernel
theorem d219_1 : decode (cod 219) 1 = .ok (.iload_n 2, 1) := by decide +kernel
theorem d219_2 : decode (cod 219) 2 = .ok (.invokestatic 230, 3) := by decide +kernel
theorem d219_5 : decode (cod 219) 5 = .ok (.ifCond .ne 5, 3) := by decide +kernel
theorem d219_8 : decode (cod 219) 8 = .ok (.iconst (-1), 1) := by decide +kernel
theorem d219_9 : decode (cod 219) 9 = .ok (.ireturn, 1) := by decide +kernel
theorem d219_10 : decode (cod 219) 10 = .ok (.iconst 0, 1) := by decide +kernel
theorem d219_11 : decode (cod 219) 11 = .ok (.istore_n 3, 1) := by decide +kernel
theorem d219_12 : decode (cod 219) 12 = .ok (.iload_n 3, 1) := by decide +kernel
theorem d219_13 : decode (cod 219) 13 = .ok (.aload_n 0, 1) := by decide +kernel
theorem d219_14 : decode (cod 219) 14 = .ok (.getfield 13, 3) := by decide +kernel
theorem d219_17 : decode (cod 219) 17 = .ok (.iconst 5, 1) := by decide +kernel
theorem d219_18 : decode (cod 219) 18 = .ok (.iaload, 1) := by decide +kernel
theorem d219_19 : decode (cod 219) 19 = .ok (.if_icmp .ge 31, 3) := by decide +kernel
theorem d219_22 : decode (cod 219) 22 = .ok (.aload_n 0, 1) := by decide +kernel
theorem d219_23 : decode (cod 219) 23 = .ok (.getfield 13, 3) := by decide +kernel
theorem d219_26 : decode (cod 219) 26 = .ok (.sipush 1892, 3) := by decide +kernel
theorem d219_29 : decode (cod 219) 29 = .ok (.iload_n 3, 1) := by decide +kernel
theorem d219_30 : decode (cod 219) 30 = .ok (.iadd, 1) := by decide +kernel
theorem d219_31 : decode (cod 219) 31 = .ok (.iaload, 1) := by decide +kernel
theorem d219_32 : decode (cod 219) 32 = .ok (.bipush 10, 2) := by decide +kernel
theorem d219_34 : decode (cod 219) 34 = .ok (.iload_n 1, 1) := by decide +kernel
theorem d219_35 : decode (cod 219) 35 = .ok (.imul, 1) := by decide +kernel
theorem d219_36 : decode (cod 219) 36 = .ok (.iload_n 2, 1) := by decide +kernel
theorem d219_37 : decode (cod 219) 37 = .ok (.iadd, 1) := by decide +kernel
theorem d219_38 : decode (cod 219) 38 = .ok (.if_icmp .ne 6, 3) := by decide +kernel
theorem d219_41 : decode (cod 219) 41 = .ok (.bipush (-3), 2) := by decide +kernel
theorem d219_43 : decode (cod 219) 43 = .ok (.ireturn, 1) := by decide +kernel
theorem d219_44 : decode (cod 219) 44 = .ok (.iinc 3 1, 3) := by decide +kernel
theorem d219_47 : decode (cod 219) 47 = .ok (.goto (-35), 3) := by decide +kernel
theorem d219_50 : decode (cod 219) 50 = .ok (.aload_n 0, 1) := by decide +kernel
theorem d219_51 : decode (cod 219) 51 = .ok (.getfield 13, 3) := by decide +kernel
theorem d219_54 : decode (cod 219) 54 = .ok (.iconst 5, 1) := by decide +kernel
theorem d219_55 : decode (cod 219) 55 = .ok (.iaload, 1) := by decide +kernel
theorem d219_56 : decode (cod 219) 56 = .ok (.bipush 10, 2) := by decide +kernel
theorem d219_58 : decode (cod 219) 58 = .ok (.if_icmp .ne 6, 3) := by decide +kernel
theorem d219_61 : decode (cod 219) 61 = .ok (.bipush (-4), 2) := by decide +kernel
theorem d219_63 : decode (cod 219) 63 = .ok (.ireturn, 1) := by decide +kernel
theorem d219_64 : decode (cod 219) 64 = .ok (.aload_n 0, 1) := by decide +kernel
theorem d219_65 : decode (cod 219) 65 = .ok (.getfield 13, 3) := by decide +kernel
theorem d219_68 : decode (cod 219) 68 = .ok (.sipush 1892, 3) := by decide +kernel
theorem d219_71 : decode (cod 219) 71 = .ok (.aload_n 0, 1) := by decide +kernel
theorem d219_72 : decode (cod 219) 72 = .ok (.getfield 13, 3) := by decide +kernel
theorem d219_75 : decode (cod 219) 75 = .ok (.iconst 5, 1) := by decide +kernel
theorem d219_76 : decode (cod 219) 76 = .ok (.iaload, 1) := by decide +kernel
theorem d219_77 : decode (cod 219) 77 = .ok (.iadd, 1) := by decide +kernel
theorem d219_78 : decode (cod 219) 78 = .ok (.bipush 10, 2) := by decide +kernel
theorem d219_80 : decode (cod 219) 80 = .ok (.iload_n 1, 1) := by decide +kernel
theorem d219_81 : decode (cod 219) 81 = .ok (.imul, 1) := by decide +kernel
theorem d219_82 : decode (cod 219) 82 = .ok (.iload_n 2, 1) := by decide +kernel
theorem d219_83 : decode (cod 219) 83 = .ok (.iadd, 1) := by decide +kernel
theorem d219_84 : decode (cod 219) 84 = .ok (.iastore, 1) := by decide +kernel
theorem d219_85 : decode (cod 219) 85 = .ok (.aload_n 0, 1) := by decide +kernel
theorem d219_86 : decode (cod 219) 86 = .ok (.getfield 13, 3) := by decide +kernel
theorem d219_89 : decode (cod 219) 89 = .ok (.iconst 5, 1) := by decide +kernel
theorem d219_90 : decode (cod 219) 90 = .ok (.dup2, 1) := by decide +kernel
theorem d219_91 : decode (cod 219) 91 = .ok (.iaload, 1) := by decide +kernel
theorem d219_92 : decode (cod 219) 92 = .ok (.iconst 1, 1) := by decide +kernel
theorem d219_93 : decode (cod 219) 93 = .ok (.iadd, 1) := by decide +kernel
theorem d219_94 : decode (cod 219) 94 = .ok (.iastore, 1) := by decide +kernel
theorem d219_95 : decode (cod 219) 95 = .ok (.aload_n 0, 1) := by decide +kernel
theorem d219_96 : decode (cod 219) 96 = .ok (.getfield 13, 3) := by decide +kernel
theorem d219_99 : decode (cod 219) 99 = .ok (.iconst 5, 1) := by decide +kernel
theorem d219_100 : decode (cod 219) 100 = .ok (.iaload, 1) := by decide +kernel
theorem d219_101 : decode (cod 219) 101 = .ok (.ireturn, 1) := by decide +kernel
theorem d220_0 : decode (cod 220) 0 = .ok (.iconst 0, 1) := by decide +kernel
theorem d220_1 : decode (cod 220) 1 = .ok (.istore_n 2, 1) := by decide +kernel
theorem d220_2 : decode (cod 220) 2 = .ok (.iload_n 2, 1) := by decide +kernel
theorem d220_3 : decode (cod 220) 3 = .ok (.aload_n 0, 1) := by decide +kernel
theorem d220_4 : decode (cod 220) 4 = .ok (.getfield 13, 3) := by decide +kernel
theorem d220_7 : decode (cod 220) 7 = .ok (.iconst 4, 1) := by decide +kernel
theorem d220_8 : decode (cod 220) 8 = .ok (.iaload, 1) := by decide +kernel
theorem d220_9 : decode (cod 220) 9 = .ok (.if_icmp .ge 58, 3) := by decide +kernel
theorem d220_12 : decode (cod 220) 12 = .ok (.sipush 1832, 3) := by decide +kernel
theorem d220_15 : decode (cod 220) 15 = .ok (.iconst 3, 1) := by decide +kernel
theorem d220_16 : decode (cod 220) 16 = .ok (.iload_n 2, 1) := by decide +kernel
theorem d220_17 : decode (cod 220) 17 = .ok (.imul, 1) := by decide +kernel
theorem d220_18 : decode (cod 220) 18 = .ok (.iadd, 1) := by decide +kernel
theorem d220_19 : decode (cod 220) 19 = .ok (.istore_n 3, 1) := by decide +kernel
theorem d220_20 : decode (cod 220) 20 = .ok (.aload_n 0, 1) := by decide +kernel
theorem d220_21 : decode (cod 220) 21 = .ok (.iload_n 1, 1) := by decide +kernel
theorem d220_22 : decode (cod 220) 22 = .ok (.aload_n 0, 1) := by decide +kernel
theorem d220_23 : decode (cod 220) 23 = .ok (.getfield 13, 3) := by decide +kernel
theorem d220_26 : decode (cod 220) 26 = .ok (.iload_n 3, 1) := by decide +kernel
theorem d220_27 : decode (cod 220) 27 = .ok (.iaload, 1) := by decide +kernel
theorem d220_28 : decode (cod 220) 28 = .ok (.aload_n 0, 1) := by decide +kernel
theorem d220_29 : decode (cod 220) 29 = .ok (.getfield 13, 3) := by decide +kernel
theorem d220_32 : decode (cod 220) 32 = .ok (.iload_n 3, 1) := by decide +kernel
theorem d220_33 : decode (cod 220) 33 = .ok (.iconst 1, 1) := by decide +kernel
theorem d220_34 : decode (cod 220) 34 = .ok (.iadd, 1) := by decide +kernel
theorem d220_35 : decode (cod 220) 35 = .ok (.iaload, 1) := by decide +kernel
theorem d220_36 : decode (cod 220) 36 = .ok (.invokevirtual 217, 3) := by decide +kernel
theorem d220_39 : decode (cod 220) 39 = .ok (.aload_n 0, 1) := by decide +kernel
theorem d220_40 : decode (cod 220) 40 = .ok (.getfield 13, 3) := by decide +kernel
theorem d220_43 : decode (cod 220) 43 = .ok (.iload_n 3, 1) := by decide +kernel
theorem d220_44 : decode (cod 220) 44 = .ok (.iconst 2, 1) := by decide +kernel
theorem d220_45 : decode (cod 220) 45 = .ok (.iadd, 1) := by decide +kernel
theorem d220_46 : decode (cod 220) 46 = .ok (.iaload, 1) := by decide +kernel
theorem d220_47 : decode (cod 220) 47 = .ok (.iconst 1, 1) := by decide +kernel
theorem d220_48 : decode (cod 220) 48 = .ok (.if_icmp .ne 7, 3) := by decide +kernel
theorem d220_51 : decode (cod 220) 51 = .ok (.iconst 1, 1) := by decide +kernel
theorem d220_52 : decode (cod 220) 52 = .ok (.goto 4, 3) := by decide +kernel
theorem d220_55 : decode (cod 220) 55 = .ok (.iconst 0, 1) := by decide +kernel
theorem d220_56 : decode (cod 220) 56 = .ok (.if_icmp .eq 5, 3) := by decide +kernel
theorem d220_59 : decode (cod 220) 59 = .ok (.iconst 0, 1) := by decide +kernel
theorem d220_60 : decode (cod 220) 60 = .ok (.ireturn, 1) := by decide +kernel
theorem d220_61 : decode (cod 220) 61 = .ok (.iinc 2 1, 3) := by decide +kernel
theorem d220_64 : decode (cod 220) 64 = .ok (.goto (-62), 3) := by decide +kernel
theorem d220_67 : decode (cod 220) 67 = .ok (.iconst 1, 1) := by decide +kernel
theorem d220_68 : decode (cod 220) 68 = .ok (.ireturn, 1) := by decide +kernel
theorem d221_0 : decode (cod 221) 0 = .ok (.iload_n 1, 1) := by decide +kernel
theorem d221_1 : decode (cod 221) 1 = .ok (.iconst 0, 1) := by decide +kernel
theorem d221_2 : decode (cod 221) 2 = .ok (.iconst 1, 1) := by decide +kernel
theorem d221_3 : decode (cod 221) 3 = .ok (.invokestatic 36, 3) := by decide +kernel
theorem d221_6 : decode (cod 221) 6 = .ok (.ifCond .ne 5, 3) := by decide +kernel
theorem d221_9 : decode (cod 221) 9 = .ok (.iconst (-1), 1) := by decide +kernel
theorem d221_10 : decode (cod 221) 10 = .ok (.ireturn, 1) := by decide +kernel
theorem d221_11 : decode (cod 221) 11 = .ok (.iconst (-1), 1) := by decide +kernel
theorem d221_12 : decode (cod 221) 12 = .ok (.istore_n 2, 1) := by decide +kernel
theorem d221_13 : decode (cod 221) 13 = .ok (.iconst 0, 1) := by decide +kernel
theorem d221_14 : decode (cod 221) 14 = .ok (.istore_n 3, 1) := by decide +kernel
theorem d221_15 : decode (cod 221) 15 = .ok (.iconst 0, 1) := by decide +kernel
theorem d221_16 : decode (cod 221) 16 = .ok (.istore 4, 2) := by decide +kernel
theorem d221_18 : decode (cod 221) 18 = .ok (.iload 4, 2) := by decide +kernel
theorem d221_20 : decode (cod 221) 20 = .ok (.iconst 1, 1) := by decide +kernel
theorem d221_21 : decode (cod 221) 21 = .ok (.aload_n 0, 1) := by decide +kernel
theorem d221_22 : decode (cod 221) 22 = .ok (.getfield 13, 3) := by decide +kernel
theorem d221_25 : decode (cod 221) 25 = .ok (.iconst 5, 1) := by decide +kernel
theorem d221_26 : decode (cod 221) 26 = .ok (.iaload, 1) := by decide +kernel
theorem d221_27 : decode (cod 221) 27 = .ok (.ishl, 1) := by decide +kernel
theorem d221_28 : decode (cod 221) 28 = .ok (.if_icmp .ge 63, 3) := by decide +kernel
theorem d221_31 : decode (cod 221) 31 = .ok (.iload_n 2, 1) := by decide +kernel
theorem d221_32 : decode (cod 221) 32 = .ok (.iconst (-1), 1) := by decide +kernel
theorem d221_33 : decode (cod 221) 33 = .ok (.if_icmp .eq 15, 3) := by decide +kernel
theorem d221_36 : decode (cod 221) 36 = .ok (.iload 4, 2) := by decide +kernel
theorem d221_38 : decode (cod 221) 38 = .ok (.invokestatic 55, 3) := by decide +kernel
theorem d221_41 : decode (cod 221) 41 = .ok (.iload_n 2, 1) := by decide +kernel
theorem d221_42 : decode (cod 221) 42 = .ok (.invokestatic 55, 3) := by decide +kernel
theorem d221_45 : decode (cod 221) 45 = .ok (.if_icmp .gt 40, 3) := by decide +kernel
theorem d221_48 : decode (cod 221) 48 = .ok (.aload_n 0, 1) := by decide +kernel
theorem d221_49 : decode (cod 221) 49 = .ok (.iload 4, 2) := by decide +kernel
theorem d221_51 : decode (cod 221) 51 = .ok (.invokevirtual 236, 3) := by decide +kernel
theorem d221_54 : decode (cod 221) 54 = .ok (.ifCond .ne 6, 3) := by decide +kernel
theorem d221_57 : decode (cod 221) 57 = .ok (.goto 28, 3) := by decide +kernel
theorem d221_60 : decode (cod 221) 60 = .ok (.iload_n 2, 1) := by decide +kernel
theorem d221_61 : decode (cod 221) 61 = .ok (.iconst (-1), 1) := by decide +kernel
theorem d221_62 : decode (cod 221) 62 = .ok (.if_icmp .eq 15, 3) := by decide +kernel
theorem d221_65 : decode (cod 221) 65 = .ok (.iload 4, 2) := by decide +kernel
theorem d221_67 : decode (cod 221) 67 = .ok (.invokestatic 55, 3) := by decide +kernel
theorem d221_70 : decode (cod 221) 70 = .ok (.iload_n 2, 1) := by decide +kernel
theorem d221_71 : decode (cod 221) 71 = .ok (.invokestatic 55, 3) := by decide +kernel
theorem d221_74 : decode (cod 221) 74 = .ok (.if_icmp .ge 8, 3) := by decide +kernel
theorem d221_77 : decode (cod 221) 77 = .ok (.iload 4, 2) := by decide +kernel
theorem d221_79 : decode (cod 221) 79 = .ok (.istore_n 2, 1) := by decide +kernel
theorem d221_80 : decode (cod 221) 80 = .ok (.iconst 0, 1) := by decide +kernel
theorem d221_81 : decode (cod 221) 81 = .ok (.istore_n 3, 1) := by decide +kernel
theorem d221_82 : decode (cod 221) 82 = .ok (.iinc 3 1, 3) := by decide +kernel
theorem d221_85 : decode (cod 221) 85 = .ok (.iinc 4 1, 3) := by decide +kernel
theorem d221_88 : decode (cod 221) 88 = .ok (.goto (-70), 3) := by decide +kernel
theorem d221_91 : decode (cod 221) 91 = .ok (.iload_n 2, 1) := by decide +kernel
theorem d221_92 : decode (cod 221) 92 = .ok (.iconst (-1), 1) := by decide +kernel
theorem d221_93 : decode (cod 221) 93 = .ok (.if_icmp .ne 8, 3) := by decide +kernel
theorem d221_96 : decode (cod 221) 96 = .ok (.bipush (-5), 2) := by decide +kernel
theorem d221_98 : decode (cod 221) 98 = .ok (.goto 12, 3) := by decide +kernel
theorem d221_101 : decode (cod 221) 101 = .ok (.iload_n 1, 1) := by decide +kernel
theorem d221_102 : decode (cod 221) 102 = .ok (.ifCond .ne 7, 3) := by decide +kernel
theorem d221_105 : decode (cod 221) 105 = .ok (.iload_n 2, 1) := by decide +kernel
theorem d221_106 : decode (cod 221) 106 = .ok (.goto 4, 3) := by decide +kernel
theorem d221_109 : decode (cod 221) 109 = .ok (.iload_n 3, 1) := by decide +kernel
theorem d221_110 : decode (cod 221) 110 = .ok (.ireturn, 1) := by decide +kernel
theorem d222_0 : decode (cod 222) 0 = .ok (.aload_n 0, 1) := by decide +kernel
theorem d222_1 : decode (cod 222) 1 = .ok (.iload_n 1, 1) := by decide +kernel
theorem d222_2 : decode (cod 222) 2 = .ok (.invokevirtual 48, 3) := by decide +kernel
theorem d222_5 : decode (cod 222) 5 = .ok (.ifCond .eq 12, 3) := by decide +kernel
theorem d222_8 : decode (cod 222) 8 = .ok (.iload_n 2, 1) := by decide +kernel
theorem d222_9 : decode (cod 222) 9 = .ok (.iconst 0, 1) := by decide +kernel
theorem d222_10 : decode (cod 222) 10 = .ok (.iconst 1, 1) := by decide +kernel
theorem d222_11 : decode (cod 222) 11 = .ok (.invokestatic 36, 3) := by decide +kernel
theorem d222_14 : decode (cod 222) 14 = .ok (.ifCond .ne 5, 3) := by decide +kernel
theorem d222_17 : decode (cod 222) 17 = .ok (.iconst (-1), 1) := by decide +kernel
theorem d222_18 : decode (cod 222) 18 = .ok (.ireturn, 1) := by decide +kernel
theorem d222_19 : decode (cod 222) 19 = .ok (.iload_n 3, 1) := by decide +kernel
theorem d222_20 : decode (cod 222) 20 = .ok (.iconst 1, 1) := by decide +kernel
theorem d222_21 : decode (cod 222) 21 = .ok (.sipush 999, 3) := by decide +kernel
theorem d222_24 : decode (cod 222) 24 = .ok (.invokestatic 36, 3) := by decide +kernel
theorem d222_27 : decode (cod 222) 27 = .ok (.ifCond .ne 6, 3) := by decide +kernel
theorem d222_30 : decode (cod 222) 30 = .ok (.bipush (-2), 2) := by decide +kernel
theorem d222_32 : decode (cod 222) 32 = .ok (.ireturn, 1) := by decide +kernel
theorem d222_33 : decode (cod 222) 33 = .ok (.aload_n 0, 1) := by decide +kernel
theorem d222_34 : decode (cod 222) 34 = .ok (.getfield 13, 3) := by decide +kernel
theorem d222_37 : decode (cod 222) 37 = .ok (.bipush 6, 2) := by decide +kernel
theorem d222_39 : decode (cod 222) 39 = .ok (.iaload, 1) := by decide +kernel
theorem d222_40 : decode (cod 222) 40 = .ok (.bipush 60, 2) := by decide +kernel
theorem d222_42 : decode (cod 222) 42 = .ok (.if_icmp .ne 6, 3) := by decide +kernel
theorem d222_45 : decode (cod 222) 45 = .ok (.bipush (-4), 2) := by decide +kernel
theorem d222_47 : decode (cod 222) 47 = .ok (.ireturn, 1) := by decide +kernel
theorem d222_48 : decode (cod 222) 48 = .ok (.sipush 1902, 3) := by decide +kernel
theorem d222_51 : decode (cod 222) 51 = .ok (.iconst 4, 1) := by decide +kernel
theorem d222_52 : decode (cod 222) 52 = .ok (.aload_n 0, 1) := by decide +kernel
theorem d222_53 : decode (cod 222) 53 = .ok (.getfield 13, 3) := by decide +kernel
theorem d222_56 : decode (cod 222) 56 = .ok (.bipush 6, 2) := by decide +kernel
theorem d222_58 : decode (cod 222) 58 = .ok (.iaload, 1) := by decide +kernel
theorem d222_59 : decode (cod 222) 59 = .ok (.imul, 1) := by decide +kernel
theorem d222_60 : decode (cod 222) 60 = .ok (.iadd, 1) := by decide +kernel
theorem d222_61 : decode (cod 222) 61 = .ok (.istore 4, 2) := by decide +kernel
theorem d222_63 : decode (cod 222) 63 = .ok (.aload_n 0, 1) := by decide +kernel
theorem d222_64 : decode (cod 222) 64 = .ok (.getfield 13, 3) := by decide +kernel
theorem d222_67 : decode (cod 222) 67 = .ok (.iload 4, 2) := by decide +kernel
theorem d222_69 : decode (cod 222) 69 = .ok (.iload_n 1, 1) := by decide +kernel
theorem d222_70 : decode (cod 222) 70 = .ok (.iastore, 1) := by decide +kernel
theorem d222_71 : decode (cod 222) 71 = .ok (.aload_n 0, 1) := by decide +kernel
theorem d222_72 : decode (cod 222) 72 = .ok (.getfield 13, 3) := by decide +kernel
theorem d222_75 : decode (cod 222) 75 = .ok (.iload 4, 2) := by decide +kernel
theorem d222_77 : decode (cod 222) 77 = .ok (.iconst 1, 1) := by decide +kernel
theorem d222_78 : decode (cod 222) 78 = .ok (.iadd, 1) := by decide +kernel
theorem d222_79 : decode (cod 222) 79 = .ok (.iload_n 2, 1) := by decide +kernel
theorem d222_80 : decode (cod 222) 80 = .ok (.iastore, 1) := by decide +kernel
theorem d222_81 : decode (cod 222) 81 = .ok (.aload_n 0, 1) := by decide +kernel
theorem d222_82 : decode (cod 222) 82 = .ok (.getfield 13, 3) := by decide +kernel
theorem d222_85 : decode (cod 222) 85 = .ok (.iload 4, 2) := by decide +kernel
theorem d222_87 : decode (cod 222) 87 = .ok (.iconst 2, 1) := by decide +kernel
theorem d222_88 : decode (cod 222) 88 = .ok (.iadd, 1) := by decide +kernel
theorem d222_89 : decode (cod 222) 89 = .ok (.iload_n 3, 1) := by decide +kernel
theorem d222_90 : decode (cod 222) 90 = .ok (.iastore, 1) := by decide +kernel
theorem d222_91 : decode (cod 222) 91 = .ok (.aload_n 0, 1) := by decide +kernel
theorem d222_92 : decode (cod 222) 92 = .ok (.getfield 13, 3) := by decide +kernel
theorem d222_95 : decode (cod 222) 95 = .ok (.iload 4, 2) := by decide +kernel
theorem d222_97 : decode (cod 222) 97 = .ok (.iconst 3, 1) := by decide +kernel
theorem d222_98 : decode (cod 222) 98 = .ok (.iadd, 1) := by decide +kernel
theorem d222_99 : decode (cod 222) 99 = .ok (.aload_n 0, 1) := by decide +kernel
theorem d222_100 : decode (cod 222) 100 = .ok (.invokevirtual 44, 3) := by decide +kernel
theorem d222_103 : decode (cod 222) 103 = .ok (.iastore, 1) := by decide +kernel
theorem d222_104 : decode (cod 222) 104 = .ok (.aload_n 0, 1) := by decide +kernel
theorem d222_105 : decode (cod 222) 105 = .ok (.getfield 13, 3) := by decide +kernel
theorem d222_108 : decode (cod 222) 108 = .ok (.bipush 6, 2) := by decide +kernel
theorem d222_110 : decode (cod 222) 110 = .ok (.dup2, 1) := by decide +kernel
theorem d222_111 : decode (cod 222) 111 = .ok (.iaload, 1) := by decide +kernel
theorem d222_112 : decode (cod 222) 112 = .ok (.iconst 1, 1) := by decide +kernel
theorem d222_113 : decode (cod 222) 113 = .ok (.iadd, 1) := by decide +kernel
theorem d222_114 : decode (cod 222) 114 = .ok (.iastore, 1) := by decide +kernel
theorem d222_115 : decode (cod 222) 115 = .ok (.aload_n 0, 1) := by decide +kernel
theorem d222_116 : decode (cod 222) 116 = .ok (.iload_n 1, 1) := by decide +kernel
theorem d222_117 : decode (cod 222) 117 = .ok (.iload_n 2, 1) := by decide +kernel
theorem d222_118 : decode (cod 222) 118 = .ok (.sipush 400, 3) := by decide +kernel
theorem d222_121 : decode (cod 222) 121 = .ok (.invokevirtual 239, 3) := by decide +kernel
theorem d222_124 : decode (cod 222) 124 = .ok (.ireturn, 1) := by decide +kernel
theorem d223_0 : decode (cod 223) 0 = .ok (.iconst 0, 1) := by decide +kernel
theorem d223_1 : decode (cod 223) 1 = .ok (.istore 4, 2) := by decide +kernel
theorem d223_3 : decode (cod 223) 3 = .ok (.iconst 0, 1) := by decide +kernel
theorem d223_4 : decode (cod 223) 4 = .ok (.istore 5, 2) := by decide +kernel
theorem d223_6 : decode (cod 223) 6 = .ok (.iload 5, 2) := by decide +kernel
theorem d223_8 : decode (cod 223) 8 = .ok (.aload_n 0, 1) := by decide +kernel
theorem d223_9 : decode (cod 223) 9 = .ok (.getfield 13, 3) := by decide +kernel
theorem d223_12 : decode (cod 223) 12 = .ok (.bipush 6, 2) := by decide +kernel
theorem d223_14 : decode (cod 223) 14 = .ok (.iaload, 1) := by decide +kernel
theorem d223_15 : decode (cod 223) 15 = .ok (.if_icmp .ge 74, 3) := by decide +kernel
theorem d223_18 : decode (cod 223) 18 = .ok (.sipush 1902, 3) := by decide +kernel
theorem d223_21 : decode (cod 223) 21 = .ok (.iconst 4, 1) := by decide +kernel
theorem d223_22 : decode (cod 223) 22 = .ok (.iload 5, 2) := by decide +kernel
theorem d223_24 : decode (cod 223) 24 = .ok (.imul, 1) := by decide +kernel
theorem d223_25 : decode (cod 223) 25 = .ok (.iadd, 1) := by decide +kernel
theorem d223_26 : decode (cod 223) 26 = .ok (.istore 6, 2) := by decide +kernel
theorem d223_28 : decode (cod 223) 28 = .ok (.iload 4, 2) := by decide +kernel
theorem d223_30 : decode (cod 223) 30 = .ok (.aload_n 0, 1) := by decide +kernel
theorem d223_31 : decode (cod 223) 31 = .ok (.getfield 13, 3) := by decide +kernel
theorem d223_34 : decode (cod 223) 34 = .ok (.iload 6, 2) := by decide +kernel
theorem d223_36 : decode (cod 223) 36 = .ok (.iaload, 1) := by decide +kernel
theorem d223_37 : decode (cod 223) 37 = .ok (.iload_n 1, 1) := by decide +kernel
theorem d223_38 : decode (cod 223) 38 = .ok (.if_icmp .ne 41, 3) := by decide +kernel
theorem d223_41 : decode (cod 223) 41 = .ok (.aload_n 0, 1) := by decide +kernel
theorem d223_42 : decode (cod 223) 42 = .ok (.getfield 13, 3) := by decide +kernel
theorem d223_45 : decode (cod 223) 45 = .ok (.iload 6, 2) := by decide +kernel
theorem d223_47 : decode (cod 223) 47 = .ok (.iconst 1, 1) := by decide +kernel
theorem d223_48 : decode (cod 223) 48 = .ok (.iadd, 1) := by decide +kernel
theorem d223_49 : decode (cod 223) 49 = .ok (.iaload, 1) := by decide +kernel
theorem d223_50 : decode (cod 223) 50 = .ok (.iload_n 2, 1) := by decide +kernel
theorem d223_51 : decode (cod 223) 51 = .ok (.if_icmp .ne 28, 3) := by decide +kernel
theorem d223_54 : decode (cod 223) 54 = .ok (.aload_n 0, 1) := by decide +kernel
theorem d223_55 : decode (cod 223) 55 = .ok (.getfield 13, 3) := by decide +kernel
theorem d223_58 : decode (cod 223) 58 = .ok (.iload 6, 2) := by decide +kernel
theorem d223_60 : decode (cod 223) 60 = .ok (.iconst 3, 1) := by decide +kernel
theorem d223_61 : decode (cod 223) 61 = .ok (.iadd, 1) := by decide +kernel
theorem d223_62 : decode (cod 223) 62 = .ok (.iaload, 1) := by decide +kernel
theorem d223_63 : decode (cod 223) 63 = .ok (.iload_n 3, 1) := by decide +kernel
theorem d223_64 : decode (cod 223) 64 = .ok (.if_icmp .gt 15, 3) := by decide +kernel
theorem d223_67 : decode (cod 223) 67 = .ok (.aload_n 0, 1) := by decide +kernel
theorem d223_68 : decode (cod 223) 68 = .ok (.getfield 13, 3) := by decide +kernel
theorem d223_71 : decode (cod 223) 71 = .ok (.iload 6, 2) := by decide +kernel
theorem d223_73 : decode (cod 223) 73 = .ok (.iconst 2, 1) := by decide +kernel
theorem d223_74 : decode (cod 223) 74 = .ok (.iadd, 1) := by decide +kernel
theorem d223_75 : decode (cod 223) 75 = .ok (.iaload, 1) := by decide +kernel
theorem d223_76 : decode (cod 223) 76 = .ok (.goto 4, 3) := by decide +kernel
theorem d223_79 : decode (cod 223) 79 = .ok (.iconst 0, 1) := by decide +kernel
theorem d223_80 : decode (cod 223) 80 = .ok (.iadd, 1) := by decide +kernel
theorem d223_81 : decode (cod 223) 81 = .ok (.istore 4, 2) := by decide +kernel
theorem d223_83 : decode (cod 223) 83 = .ok (.iinc 5 1, 3) := by decide +kernel
theorem d223_86 : decode (cod 223) 86 = .ok (.goto (-80), 3) := by decide +kernel
theorem d223_89 : decode (cod 223) 89 = .ok (.iload 4, 2) := by decide +kernel
theorem d223_91 : decode (cod 223) 91 = .ok (.ireturn, 1) := by decide +kernel
theorem d224_0 : decode (cod 224) 0 = .ok (.iconst 0, 1) := by decide +kernel
theorem d224_1 : decode (cod 224) 1 = .ok (.istore_n 3, 1) := by decide +kernel
theorem d224_2 : decode (cod 224) 2 = .ok (.aload_n 0, 1) := by decide +kernel
theorem d224_3 : decode (cod 224) 3 = .ok (.iload_n 1, 1) := by decide +kernel
theorem d224_4 : decode (cod 224) 4 = .ok (.iconst 4, 1) := by decide +kernel
theorem d224_5 : decode (cod 224) 5 = .ok (.invokevirtual 51, 3) := by decide +kernel
theorem d224_8 : decode (cod 224) 8 = .ok (.bipush 30, 2) := by decide +kernel
theorem d224_10 : decode (cod 224) 10 = .ok (.iadd, 1) := by decide +kernel
theorem d224_11 : decode (cod 224) 11 = .ok (.istore 4, 2) := by decide +kernel
theorem d224_13 : decode (cod 224) 13 = .ok (.iload 4, 2) := by decide +kernel
theorem d224_15 : decode (cod 224) 15 = .ok (.iload_n 2, 1) := by decide +kernel
theorem d224_16 : decode (cod 224) 16 = .ok (.if_icmp .gt 35, 3) := by decide +kernel
theorem d224_19 : decode (cod 224) 19 = .ok (.iload_n 3, 1) := by decide +kernel
theorem d224_20 : decode (cod 224) 20 = .ok (.aload_n 0, 1) := by decide +kernel
theorem d224_21 : decode (cod 224) 21 = .ok (.iconst 1, 1) := by decide +kernel
theorem d224_22 : decode (cod 224) 22 = .ok (.iconst (-1), 1) := by decide +kernel
theorem d224_23 : decode (cod 224) 23 = .ok (.iload 4, 2) := by decide +kernel
theorem d224_25 : decode (cod 224) 25 = .ok (.iconst 1, 1) := by decide +kernel
theorem d224_26 : decode (cod 224) 26 = .ok (.isub, 1) := by decide +kernel
theorem d224_27 : decode (cod 224) 27 = .ok (.invokevirtual 164, 3) := by decide +kernel
theorem d224_30 : decode (cod 224) 30 = .ok (.iconst 3, 1) := by decide +kernel
theorem d224_31 : decode (cod 224) 31 = .ok (.aload_n 0, 1) := by decide +kernel
theorem d224_32 : decode (cod 224) 32 = .ok (.iconst 2, 1) := by decide +kernel
theorem d224_33 : decode (cod 224) 33 = .ok (.iconst (-1), 1) := by decide +kernel
theorem d224_34 : decode (cod 224) 34 = .ok (.iload 4, 2) := by decide +kernel
theorem d224_36 : decode (cod 224) 36 = .ok (.iconst 1, 1) := by decide +kernel
theorem d224_37 : decode (cod 224) 37 = .ok (.isub, 1) := by decide +kernel
theorem d224_38 : decode (cod 224) 38 = .ok (.invokevirtual 164, 3) := by decide +kernel
theorem d224_41 : decode (cod 224) 41 = .ok (.imul, 1) := by decide +kernel
theorem d224_42 : decode (cod 224) 42 = .ok (.iadd, 1) := by decide +kernel
theorem d224_43 : decode (cod 224) 43 = .ok (.iadd, 1) := by decide +kernel
theorem d224_44 : decode (cod 224) 44 = .ok (.istore_n 3, 1) := by decide +kernel
theorem d224_45 : decode (cod 224) 45 = .ok (.iinc 4 30, 3) := by decide +kernel
theorem d224_48 : decode (cod 224) 48 = .ok (.goto (-35), 3) := by decide +kernel
theorem d224_51 : decode (cod 224) 51 = .ok (.iload_n 3, 1) := by decide +kernel
theorem d224_52 : decode (cod 224) 52 = .ok (.aload_n 0, 1) := by decide +kernel
theorem d224_53 : decode (cod 224) 53 = .ok (.iload_n 1, 1) := by decide +kernel
theorem d224_54 : decode (cod 224) 54 = .ok (.iconst 0, 1) := by decide +kernel
theorem d224_55 : decode (cod 224) 55 = .ok (.iload_n 2, 1) := by decide +kernel
theorem d224_56 : decode (cod 224) 56 = .ok (.invokevirtual 239, 3) := by decide +kernel
theorem d224_59 : decode (cod 224) 59 = .ok (.isub, 1) := by decide +kernel
theorem d224_60 : decode (cod 224) 60 = .ok (.iconst 3, 1) := by decide +kernel
theorem d224_61 : decode (cod 224) 61 = .ok (.aload_n 0, 1) := by decide +kernel
theorem d224_62 : decode (cod 224) 62 = .ok (.iload_n 1, 1) := by decide +kernel
theorem d224_63 : decode (cod 224) 63 = .ok (.iconst 1, 1) := by decide +kernel
theorem d224_64 : decode (cod 224) 64 = .ok (.iload_n 2, 1) := by decide +kernel
theorem d224_65 : decode (cod 224) 65 = .ok (.invokevirtual 239, 3) := by decide +kernel
theorem d224_68 : decode (cod 224) 68 = .ok (.imul, 1) := by decide +kernel
theorem d224_69 : decode (cod 224) 69 = .ok (.isub, 1) := by decide +kernel
theorem d224_70 : decode (cod 224) 70 = .ok (.ireturn, 1) := by decide +kernel
theorem d225_0 : decode (cod 225) 0 = .ok (.aload_n 0, 1) := by decide +kernel
theorem d225_1 : decode (cod 225) 1 = .ok (.iload_n 1, 1) := by decide +kernel
theorem d225_2 : decode (cod 225) 2 = .ok (.invokevirtual 48, 3) := by decide +kernel
theorem d225_5 : decode (cod 225) 5 = .ok (.ifCond .ne 5, 3) := by decide +kernel
theorem d225_8 : decode (cod 225) 8 = .ok (.iconst (-1), 1) := by decide +kernel
theorem d225_9 : decode (cod 225) 9 = .ok (.ireturn, 1) := by decide +kernel
theorem d225_10 : decode (cod 225) 10 = .ok (.iload_n 2, 1) := by decide +kernel
theorem d225_11 : decode (cod 225) 11 = .ok (.iconst 0, 1) := by decide +kernel
theorem d225_12 : decode (cod 225) 12 = .ok (.aload_n 0, 1) := by decide +kernel
theorem d225_13 : decode (cod 225) 13 = .ok (.invokevirtual 44, 3) := by decide +kernel
theorem d225_16 : decode (cod 225) 16 = .ok (.invokestatic 36, 3) := by decide +kernel
theorem d225_19 : decode (cod 225) 19 = .ok (.ifCond .ne 6, 3) := by decide +kernel
theorem d225_22 : decode (cod 225) 22 = .ok (.bipush (-2), 2) := by decide +kernel
theorem d225_24 : decode (cod 225) 24 = .ok (.ireturn, 1) := by decide +kernel
theorem d225_25 : decode (cod 225) 25 = .ok (.iload_n 2, 1) := by decide +kernel
theorem d225_26 : decode (cod 225) 26 = .ok (.aload_n 0, 1) := by decide +kernel
theorem d225_27 : decode (cod 225) 27 = .ok (.iload_n 1, 1) := by decide +kernel
theorem d225_28 : decode (cod 225) 28 = .ok (.iconst 4, 1) := by decide +kernel
theorem d225_29 : decode (cod 225) 29 = .ok (.invokevirtual 51, 3) := by decide +kernel
theorem d225_32 : decode (cod 225) 32 = .ok (.if_icmp .ge 7, 3) := by decide +kernel
theorem d225_35 : decode (cod 225) 35 = .ok (.iconst 0, 1) := by decide +kernel
theorem d225_36 : decode (cod 225) 36 = .ok (.goto 9, 3) := by decide +kernel
theorem d225_39 : decode (cod 225) 39 = .ok (.aload_n 0, 1) := by decide +kernel
theorem d225_40 : decode (cod 225) 40 = .ok (.iload_n 1, 1) := by decide +kernel
theorem d225_41 : decode (cod 225) 41 = .ok (.iload_n 2, 1) := by decide +kernel
theorem d225_42 : decode (cod 225) 42 = .ok (.invokevirtual 242, 3) := by decide +kernel
theorem d225_45 : decode (cod 225) 45 = .ok (.ireturn, 1) := by decide +kernel
theorem d226_0 : decode (cod 226) 0 = .ok (.aload_n 0, 1) := by decide +kernel
theorem d226_1 : decode (cod 226) 1 = .ok (.iload_n 1, 1) := by decide +kernel
theorem d226_2 : decode (cod 226) 2 = .ok (.invokevirtual 48, 3) := by decide +kernel
theorem d226_5 : decode (cod 226) 5 = .ok (.ifCond .ne 5, 3) := by decide +kernel
theorem d226_8 : decode (cod 226) 8 = .ok (.iconst (-1), 1) := by decide +kernel
theorem d226_9 : decode (cod 226) 9 = .ok (.ireturn, 1) := by decide +kernel
theorem d226_10 : decode (cod 226) 10 = .ok (.bipush (-5), 2) := by decide +kernel
theorem d226_12 : decode (cod 226) 12 = .ok (.istore_n 2, 1) := by decide +kernel
theorem d226_13 : decode (cod 226) 13 = .ok (.aload_n 0, 1) := by decide +kernel
theorem d226_14 : decode (cod 226) 14 = .ok (.invokevirtual 44, 3) := by decide +kernel
theorem d226_17 : decode (cod 226) 17 = .ok (.istore_n 3, 1) := by decide +kernel
theorem d226_18 : decode (cod 226) 18 = .ok (.iload_n 3, 1) := by decide +kernel
theorem d226_19 : decode (cod 226) 19 = .ok (.aload_n 0, 1) := by decide +kernel
theorem d226_20 : decode (cod 226) 20 = .ok (.iload_n 1, 1) := by decide +kernel
theorem d226_21 : decode (cod 226) 21 = .ok (.iconst 4, 1) := by decide +kernel
theorem d226_22 : decode (cod 226) 22 = .ok (.invokevirtual 51, 3) := by decide +kernel
theorem d226_25 : decode (cod 226) 25 = .ok (.if_icmp .lt 20, 3) := by decide +kernel
theorem d226_28 : decode (cod 226) 28 = .ok (.aload_n 0, 1) := by decide +kernel
theorem d226_29 : decode (cod 226) 29 = .ok (.iload_n 1, 1) := by decide +kernel
theorem d226_30 : decode (cod 226) 30 = .ok (.iload_n 3, 1) := by decide +kernel
theorem d226_31 : decode (cod 226) 31 = .ok (.invokevirtual 242, 3) := by decide +kernel
theorem d226_34 : decode (cod 226) 34 = .ok (.ifCond .le 11, 3) := by decide +kernel
theorem d226_37 : decode (cod 226) 37 = .ok (.iload_n 3, 1) := by decide +kernel
theorem d226_38 : decode (cod 226) 38 = .ok (.istore_n 2, 1) := by decide +kernel
theorem d226_39 : decode (cod 226) 39 = .ok (.iinc 3 (-1), 3) := by decide +kernel
theorem d226_42 : decode (cod 226) 42 = .ok (.goto (-24), 3) := by decide +kernel
theorem d226_45 : decode (cod 226) 45 = .ok (.iload_n 2, 1) := by decide +kernel
theorem d226_46 : decode (cod 226) 46 = .ok (.ireturn, 1) := by decide +kernel
theorem d227_0 : decode (cod 227) 0 = .ok (.aload_n 0, 1) := by decide +kernel
theorem d227_1 : decode (cod 227) 1 = .ok (.iload_n 1, 1) := by decide +kernel
theorem d227_2 : decode (cod 227) 2 = .ok (.invokevirtual 48, 3) := by decide +kernel
theorem d227_5 : decode (cod 227) 5 = .ok (.ifCond .ne 5, 3) := by decide +kernel
theorem d227_8 : decode (cod 227) 8 = .ok (.iconst (-1), 1) := by decide +kernel
theorem d227_9 : decode (cod 227) 9 = .ok (.ireturn, 1) := by decide +kernel
theorem d227_10 : decode (cod 227) 10 = .ok (.iload_n 2, 1) := by decide +kernel
theorem d227_11 : decode (cod 227) 11 = .ok (.invokestatic 140, 3) := by decide +kernel
theorem d227_14 : decode (cod 227) 14 = .ok (.ifCond .eq 15, 3) := by decide +kernel
theorem d227_17 : decode (cod 227) 17 = .ok (.iload_n 3, 1) := by decide +kernel
theorem d227_18 : decode (cod 227) 18 = .ok (.invokestatic 140, 3) := by decide +kernel
theorem d227_21 : decode (cod 227) 21 = .ok (.ifCond .eq 8, 3) := by decide +kernel
theorem d227_24 : decode (cod 227) 24 = .ok (.iload_n 3, 1) := by decide +kernel
theorem d227_25 : decode (cod 227) 25 = .ok (.iload_n 2, 1) := by decide +kernel
theorem d227_26 : decode (cod 227) 26 = .ok (.if_icmp .ge 6, 3) := by decide +kernel
theorem d227_29 : decode (cod 227) 29 = .ok (.bipush (-2), 2) := by decide +kernel
theorem d227_31 : decode (cod 227) 31 = .ok (.ireturn, 1) := by decide +kernel
theorem d227_32 : decode (cod 227) 32 = .ok (.iconst 0, 1) := by decide +kernel
theorem d227_33 : decode (cod 227) 33 = .ok (.istore 4, 2) := by decide +kernel
theorem d227_35 : decode (cod 227) 35 = .ok (.iconst 0, 1) := by decide +kernel
theorem d227_36 : decode (cod 227) 36 = .ok (.istore 5, 2) := by decide +kernel
theorem d227_38 : decode (cod 227) 38 = .ok (.iload 5, 2) := by decide +kernel
theorem d227_40 : decode (cod 227) 40 = .ok (.aload_n 0, 1) := by decide +kernel
theorem d227_41 : decode (cod 227) 41 = .ok (.getfield 13, 3) := by decide +kernel
theorem d227_44 : decode (cod 227) 44 = .ok (.iconst 2, 1) := by decide +kernel
theorem d227_45 : decode (cod 227) 45 = .ok (.iaload, 1) := by decide +kernel
theorem d227_46 : decode (cod 227) 46 = .ok (.if_icmp .ge 99, 3) := by decide +kernel
theorem d227_49 : decode (cod 227) 49 = .ok (.aload_n 0, 1) := by decide +kernel
theorem d227_50 : decode (cod 227) 50 = .ok (.iload 5, 2) := by decide +kernel
theorem d227_52 : decode (cod 227) 52 = .ok (.iconst 5, 1) := by decide +kernel
theorem d227_53 : decode (cod 227) 53 = .ok (.invokevirtual 104, 3) := by decide +kernel
theorem d227_56 : decode (cod 227) 56 = .ok (.iconst 1, 1) := by decide +kernel
theorem d227_57 : decode (cod 227) 57 = .ok (.if_icmp .eq 14, 3) := by decide +kernel
theorem d227_60 : decode (cod 227) 60 = .ok (.aload_n 0, 1) := by decide +kernel
theorem d227_61 : decode (cod 227) 61 = .ok (.iload 5, 2) := by decide +kernel
theorem d227_63 : decode (cod 227) 63 = .ok (.iconst 5, 1) := by decide +kernel
theorem d227_64 : decode (cod 227) 64 = .ok (.invokevirtual 104, 3) := by decide +kernel
theorem d227_67 : decode (cod 227) 67 = .ok (.iconst 2, 1) := by decide +kernel
theorem d227_68 : decode (cod 227) 68 = .ok (.if_icmp .ne 7, 3) := by decide +kernel
theorem d227_71 : decode (cod 227) 71 = .ok (.iconst 1, 1) := by decide +kernel
theorem d227_72 : decode (cod 227) 72 = .ok (.goto 4, 3) := by decide +kernel
theorem d227_75 : decode (cod 227) 75 = .ok (.iconst 0, 1) := by decide +kernel
theorem d227_76 : decode (cod 227) 76 = .ok (.istore 6, 2) := by decide +kernel
theorem d227_78 : decode (cod 227) 78 = .ok (.iload 4, 2) := by decide +kernel
theorem d227_80 : decode (cod 227) 80 = .ok (.aload_n 0, 1) := by decide +kernel
theorem d227_81 : decode (cod 227) 81 = .ok (.iload 5, 2) := by decide +kernel
theorem d227_83 : decode (cod 227) 83 = .ok (.iconst 0, 1) := by decide +kernel
theorem d227_84 : decode (cod 227) 84 = .ok (.invokevirtual 104, 3) := by decide +kernel
theorem d227_87 : decode (cod 227) 87 = .ok (.iconst 3, 1) := by decide +kernel
theorem d227_88 : decode (cod 227) 88 = .ok (.if_icmp .ne 47, 3) := by decide +kernel
theorem d227_91 : decode (cod 227) 91 = .ok (.aload_n 0, 1) := by decide +kernel
theorem d227_92 : decode (cod 227) 92 = .ok (.iload 5, 2) := by decide +kernel
theorem d227_94 : decode (cod 227) 94 = .ok (.iconst 1, 1) := by decide +kernel
theorem d227_95 : decode (cod 227) 95 = .ok (.invokevirtual 104, 3) := by decide +kernel
theorem d227_98 : decode (cod 227) 98 = .ok (.iload_n 1, 1) := by decide +kernel
theorem d227_99 : decode (cod 227) 99 = .ok (.if_icmp .ne 36, 3) := by decide +kernel
theorem d227_102 : decode (cod 227) 102 = .ok (.iload 6, 2) := by decide +kernel
theorem d227_104 : decode (cod 227) 104 = .ok (.ifCond .eq 31, 3) := by decide +kernel
theorem d227_107 : decode (cod 227) 107 = .ok (.aload_n 0, 1) := by decide +kernel
theorem d227_108 : decode (cod 227) 108 = .ok (.iload 5, 2) := by decide +kernel
theorem d227_110 : decode (cod 227) 110 = .ok (.iconst 4, 1) := by decide +kernel
theorem d227_111 : decode (cod 227) 111 = .ok (.invokevirtual 104, 3) := by decide +kernel
theorem d227_114 : decode (cod 227) 114 = .ok (.bipush 100, 2) := by decide +kernel
theorem d227_116 : decode (cod 227) 116 = .ok (.idiv, 1) := by decide +kernel
theorem d227_117 : decode (cod 227) 117 = .ok (.iload_n 2, 1) := by decide +kernel
theorem d227_118 : decode (cod 227) 118 = .ok (.iload_n 3, 1) := by decide +kernel
theorem d227_119 : decode (cod 227) 119 = .ok (.invokestatic 36, 3) := by decide +kernel
theorem d227_122 : decode (cod 227) 122 = .ok (.ifCond .eq 13, 3) := by decide +kernel
theorem d227_125 : decode (cod 227) 125 = .ok (.aload_n 0, 1) := by decide +kernel
theorem d227_126 : decode (cod 227) 126 = .ok (.iload 5, 2) := by decide +kernel
theorem d227_128 : decode (cod 227) 128 = .ok (.iconst 3, 1) := by decide +kernel
theorem d227_129 : decode (cod 227) 129 = .ok (.invokevirtual 104, 3) := by decide +kernel
theorem d227_132 : decode (cod 227) 132 = .ok (.goto 4, 3) := by decide +kernel
theorem d227_135 : decode (cod 227) 135 = .ok (.iconst 0, 1) := by decide +kernel
theorem d227_136 : decode (cod 227) 136 = .ok (.iadd, 1) := by decide +kernel
theorem d227_137 : decode (cod 227) 137 = .ok (.istore 4, 2) := by decide +kernel
theorem d227_139 : decode (cod 227) 139 = .ok (.iinc 5 1, 3) := by decide +kernel
theorem d227_142 : decode (cod 227) 142 = .ok (.goto (-104), 3) := by decide +kernel
theorem d227_145 : decode (cod 227) 145 = .ok (.iload 4, 2) := by decide +kernel
theorem d227_147 : decode (cod 227) 147 = .ok (.bipush 10, 2) := by decide +kernel
theorem d227_149 : decode (cod 227) 149 = .ok (.if_icmp .gt 10, 3) := by decide +kernel
theorem d227_152 : decode (cod 227) 152 = .ok (.iconst 4, 1) := by decide +kernel
theorem d227_153 : decode (cod 227) 153 = .ok (.iload 4, 2) := by decide +kernel
theorem d227_155 : decode (cod 227) 155 = .ok (.imul, 1) := by decide +kernel
theorem d227_156 : decode (cod 227) 156 = .ok (.goto 33, 3) := by decide +kernel
theorem d227_159 : decode (cod 227) 159 = .ok (.iload 4, 2) := by decide +kernel
theorem d227_161 : decode (cod 227) 161 = .ok (.bipush 20, 2) := by decide +kernel
theorem d227_163 : decode (cod 227) 163 = .ok (.if_icmp .gt 16, 3) := by decide +kernel
theorem d227_166 : decode (cod 227) 166 = .ok (.bipush 40, 2) := by decide +kernel
theorem d227_168 : decode (cod 227) 168 = .ok (.iconst 3, 1) := by decide +kernel
theorem d227_169 : decode (cod 227) 169 = .ok (.iload 4, 2) := by decide +kernel
theorem d227_171 : decode (cod 227) 171 = .ok (.bipush 10, 2) := by decide +kernel
theorem d227_173 : decode (cod 227) 173 = .ok (.isub, 1) := by decide +kernel
theorem d227_174 : decode (cod 227) 174 = .ok (.imul, 1) := by decide +kernel
theorem d227_175 : decode (cod 227) 175 = .ok (.iadd, 1) := by decide +kernel
theorem d227_176 : decode (cod 227) 176 = .ok (.goto 13, 3) := by decide +kernel
theorem d227_179 : decode (cod 227) 179 = .ok (.bipush 70, 2) := by decide +kernel
theorem d227_181 : decode (cod 227) 181 = .ok (.iconst 2, 1) := by decide +kernel
theorem d227_182 : decode (cod 227) 182 = .ok (.iload 4, 2) := by decide +kernel
theorem d227_184 : decode (cod 227) 184 = .ok (.bipush 20, 2) := by decide +kernel
theorem d227_186 : decode (cod 227) 186 = .ok (.isub, 1) := by decide +kernel
theorem d227_187 : decode (cod 227) 187 = .ok (.imul, 1) := by decide +kernel
theorem d227_188 : decode (cod 227) 188 = .ok (.iadd, 1) := by decide +kernel
theorem d227_189 : decode (cod 227) 189 = .ok (.ireturn, 1) := by decide +kernel
theorem d228_0 : decode (cod 228) 0 = .ok (.aload_n 0, 1) := by decide +kernel
theorem d228_1 : decode (cod 228) 1 = .ok (.iload_n 1, 1) := by decide +kernel
theorem d228_2 : decode (cod 228) 2 = .ok (.invokevirtual 48, 3) := by decide +kernel
theorem d228_5 : decode (cod 228) 5 = .ok (.ifCond .eq 11, 3) := by decide +kernel
theorem d228_8 : decode (cod 228) 8 = .ok (.aload_n 0, 1) := by decide +kernel
theorem d228_9 : decode (cod 228) 9 = .ok (.iload_n 2, 1) := by decide +kernel
theorem d228_10 : decode (cod 228) 10 = .ok (.invokevirtual 48, 3) := by decide +kernel
theorem d228_13 : decode (cod 228) 13 = .ok (.ifCond .ne 5, 3) := by decide +kernel
theorem d228_16 : decode (cod 228) 16 = .ok (.iconst (-1), 1) := by decide +kernel
theorem d228_17 : decode (cod 228) 17 = .ok (.ireturn, 1) := by decide +kernel
theorem d228_18 : decode (cod 228) 18 = .ok (.iload_n 1, 1) := by decide +kernel
theorem d228_19 : decode (cod 228) 19 = .ok (.iload_n 2, 1) := by decide +kernel
theorem d228_20 : decode (cod 228) 20 = .ok (.if_icmp .ne 6, 3) := by decide +kernel
theorem d228_23 : decode (cod 228) 23 = .ok (.bipush (-2), 2) := by decide +kernel
theorem d228_25 : decode (cod 228) 25 = .ok (.ireturn, 1) := by decide +kernel
theorem d228_26 : decode (cod 228) 26 = .ok (.aload_n 0, 1) := by decide +kernel
theorem d228_27 : decode (cod 228) 27 = .ok (.getfield 13, 3) := by decide +kernel
theorem d228_30 : decode (cod 228) 30 = .ok (.sipush 2142, 3) := by decide +kernel
theorem d228_33 : decode (cod 228) 33 = .ok (.bipush 12, 2) := by decide +kernel
theorem d228_35 : decode (cod 228) 35 = .ok (.iload_n 1, 1) := by decide +kernel
theorem d228_36 : decode (cod 228) 36 = .ok (.imul, 1) := by decide +kernel
theorem d228_37 : decode (cod 228) 37 = .ok (.iadd, 1) := by decide +kernel
theorem d228_38 : decode (cod 228) 38 = .ok (.iload_n 2, 1) := by decide +kernel
theorem d228_39 : decode (cod 228) 39 = .ok (.iadd, 1) := by decide +kernel
theorem d228_40 : decode (cod 228) 40 = .ok (.iaload, 1) := by decide +kernel
theorem d228_41 : decode (cod 228) 41 = .ok (.istore_n 3, 1) := by decide +kernel
theorem d228_42 : decode (cod 228) 42 = .ok (.aload_n 0, 1) := by decide +kernel
theorem d228_43 : decode (cod 228) 43 = .ok (.getfield 13, 3) := by decide +kernel
theorem d228_46 : decode (cod 228) 46 = .ok (.sipush 2142, 3) := by decide +kernel
theorem d228_49 : decode (cod 228) 49 = .ok (.bipush 12, 2) := by decide +kernel
theorem d228_51 : decode (cod 228) 51 = .ok (.iload_n 1, 1) := by decide +kernel
theorem d228_52 : decode (cod 228) 52 = .ok (.imul, 1) := by decide +kernel
theorem d228_53 : decode (cod 228) 53 = .ok (.iadd, 1) := by decide +kernel
theorem d228_54 : decode (cod 228) 54 = .ok (.iload_n 2, 1) := by decide +kernel
theorem d228_55 : decode (cod 228) 55 = .ok (.iadd, 1) := by decide +kernel
theorem d228_56 : decode (cod 228) 56 = .ok (.iconst 1, 1) := by decide +kernel
theorem d228_57 : decode (cod 228) 57 = .ok (.iastore, 1) := by decide +kernel
theorem d228_58 : decode (cod 228) 58 = .ok (.aload_n 0, 1) := by decide +kernel
theorem d228_59 : decode (cod 228) 59 = .ok (.getfield 13, 3) := by decide +kernel
theorem d228_62 : decode (cod 228) 62 = .ok (.sipush 2142, 3) := by decide +kernel
theorem d228_65 : decode (cod 228) 65 = .ok (.bipush 12, 2) := by decide +kernel
theorem d228_67 : decode (cod 228) 67 = .ok (.iload_n 2, 1) := by decide +kernel
theorem d228_68 : decode (cod 228) 68 = .ok (.imul, 1) := by decide +kernel
theorem d228_69 : decode (cod 228) 69 = .ok (.iadd, 1) := by decide +kernel
theorem d228_70 : decode (cod 228) 70 = .ok (.iload_n 1, 1) := by decide +kernel
theorem d228_71 : decode (cod 228) 71 = .ok (.iadd, 1) := by decide +kernel
theorem d228_72 : decode (cod 228) 72 = .ok (.iconst 1, 1) := by decide +kernel
theorem d228_73 : decode (cod 228) 73 = .ok (.iastore, 1) := by decide +kernel
theorem d228_74 : decode (cod 228) 74 = .ok (.iconst 1, 1) := by decide +kernel
theorem d228_75 : decode (cod 228) 75 = .ok (.iload_n 3, 1) := by decide +kernel
theorem d228_76 : decode (cod 228) 76 = .ok (.isub, 1) := by decide +kernel
theorem d228_77 : decode (cod 228) 77 = .ok (.ireturn, 1) := by decide +kernel
theorem d229_0 : decode (cod 229) 0 = .ok (.iconst 0, 1) := by decide +kernel
theorem d229_1 : decode (cod 229) 1 = .ok (.istore_n 3, 1) := by decide +kernel
theorem d229_2 : decode (cod 229) 2 = .ok (.iconst 0, 1) := by decide +kernel
theorem d229_3 : decode (cod 229) 3 = .ok (.istore 4, 2) := by decide +kernel
theorem d229_5 : decode (cod 229) 5 = .ok (.iload 4, 2) := by decide +kernel
theorem d229_7 : decode (cod 229) 7 = .ok (.aload_n 0, 1) := by decide +kernel
theorem d229_8 : decode (cod 229) 8 = .ok (.getfield 13, 3) := by decide +kernel
theorem d229_11 : decode (cod 229) 11 = .ok (.iconst 2, 1) := by decide +kernel
theorem d229_12 : decode (cod 229) 12 = .ok (.iaload, 1) := by decide +kernel
theorem d229_13 : decode (cod 229) 13 = .ok (.if_icmp .ge 95, 3) := by decide +kernel
theorem d229_16 : decode (cod 229) 16 = .ok (.aload_n 0, 1) := by decide +kernel
theorem d229_17 : decode (cod 229) 17 = .ok (.iload 4, 2) := by decide +kernel
theorem d229_19 : decode (cod 229) 19 = .ok (.iconst 1, 1) := by decide +kernel
theorem d229_20 : decode (cod 229) 20 = .ok (.invokevirtual 104, 3) := by decide +kernel
theorem d229_23 : decode (cod 229) 23 = .ok (.iload_n 1, 1) := by decide +kernel
theorem d229_24 : decode (cod 229) 24 = .ok (.if_icmp .ne 14, 3) := by decide +kernel
theorem d229_27 : decode (cod 229) 27 = .ok (.aload_n 0, 1) := by decide +kernel
theorem d229_28 : decode (cod 229) 28 = .ok (.iload 4, 2) := by decide +kernel
theorem d229_30 : decode (cod 229) 30 = .ok (.iconst 2, 1) := by decide +kernel
theorem d229_31 : decode (cod 229) 31 = .ok (.invokevirtual 104, 3) := by decide +kernel
theorem d229_34 : decode (cod 229) 34 = .ok (.iload_n 2, 1) := by decide +kernel
theorem d229_35 : decode (cod 229) 35 = .ok (.if_icmp .eq 25, 3) := by decide +kernel
theorem d229_38 : decode (cod 229) 38 = .ok (.aload_n 0, 1) := by decide +kernel
theorem d229_39 : decode (cod 229) 39 = .ok (.iload 4, 2) := by decide +kernel
theorem d229_41 : decode (cod 229) 41 = .ok (.iconst 1, 1) := by decide +kernel
theorem d229_42 : decode (cod 229) 42 = .ok (.invokevirtual 104, 3) := by decide +kernel
theorem d229_45 : decode (cod 229) 45 = .ok (.iload_n 2, 1) := by decide +kernel
theorem d229_46 : decode (cod 229) 46 = .ok (.if_icmp .ne 18, 3) := by decide +kernel
theorem d229_49 : decode (cod 229) 49 = .ok (.aload_n 0, 1) := by decide +kernel
theorem d229_50 : decode (cod 229) 50 = .ok (.iload 4, 2) := by decide +kernel
theorem d229_52 : decode (cod 229) 52 = .ok (.iconst 2, 1) := by decide +kernel
theorem d229_53 : decode (cod 229) 53 = .ok (.invokevirtual 104, 3) := by decide +kernel
theorem d229_56 : decode (cod 229) 56 = .ok (.iload_n 1, 1) := by decide +kernel
theorem d229_57 : decode (cod 229) 57 = .ok (.if_icmp .ne 7, 3) := by decide +kernel
theorem d229_60 : decode (cod 229) 60 = .ok (.iconst 1, 1) := by decide +kernel
theorem d229_61 : decode (cod 229) 61 = .ok (.goto 4, 3) := by decide +kernel
theorem d229_64 : decode (cod 229) 64 = .ok (.iconst 0, 1) := by decide +kernel
theorem d229_65 : decode (cod 229) 65 = .ok (.istore 5, 2) := by decide +kernel
theorem d229_67 : decode (cod 229) 67 = .ok (.iload_n 3, 1) := by decide +kernel
theorem d229_68 : decode (cod 229) 68 = .ok (.iload 5, 2) := by decide +kernel
theorem d229_70 : decode (cod 229) 70 = .ok (.ifCond .eq 29, 3) := by decide +kernel
theorem d229_73 : decode (cod 229) 73 = .ok (.aload_n 0, 1) := by decide +kernel
theorem d229_74 : decode (cod 229) 74 = .ok (.iload 4, 2) := by decide +kernel
theorem d229_76 : decode (cod 229) 76 = .ok (.iconst 0, 1) := by decide +kernel
theorem d229_77 : decode (cod 229) 77 = .ok (.invokevirtual 104, 3) := by decide +kernel
theorem d229_80 : decode (cod 229) 80 = .ok (.iconst 1, 1) := by decide +kernel
theorem d229_81 : decode (cod 229) 81 = .ok (.if_icmp .eq 14, 3) := by decide +kernel
theorem d229_84 : decode (cod 229) 84 = .ok (.aload_n 0, 1) := by decide +kernel
theorem d229_85 : decode (cod 229) 85 = .ok (.iload 4, 2) := by decide +kernel
theorem d229_87 : decode (cod 229) 87 = .ok (.iconst 0, 1) := by decide +kernel
theorem d229_88 : decode (cod 229) 88 = .ok (.invokevirtual 104, 3) := by decide +kernel
theorem d229_91 : decode (cod 229) 91 = .ok (.iconst 2, 1) := by decide +kernel
theorem d229_92 : decode (cod 229) 92 = .ok (.if_icmp .ne 7, 3) := by decide +kernel
theorem d229_95 : decode (cod 229) 95 = .ok (.iconst 1, 1) := by decide +kernel
theorem d229_96 : decode (cod 229) 96 = .ok (.goto 4, 3) := by decide +kernel
theorem d229_99 : decode (cod 229) 99 = .ok (.iconst 0, 1) := by decide +kernel
theorem d229_100 : decode (cod 229) 100 = .ok (.iadd, 1) := by decide +kernel
theorem d229_101 : decode (cod 229) 101 = .ok (.istore_n 3, 1) := by decide +kernel
theorem d229_102 : decode (cod 229) 102 = .ok (.iinc 4 1, 3) := by decide +kernel
theorem d229_105 : decode (cod 229) 105 = .ok (.goto (-100), 3) := by decide +kernel
theorem d229_108 : decode (cod 229) 108 = .ok (.iload_n 3, 1) := by decide +kernel
theorem d229_109 : decode (cod 229) 109 = .ok (.ireturn, 1) := by decide +kernel
theorem d230_0 : decode (cod 230) 0 = .ok (.iload 4, 2) := by decide +kernel
theorem d230_2 : decode (cod 230) 2 = .ok (.aload_n 0, 1) := by decide +kernel
theorem d230_3 : decode (cod 230) 3 = .ok (.getfield 62, 3) := by decide +kernel
theorem d230_6 : decode (cod 230) 6 = .ok (.if_icmp .lt 4, 3) := by decide +kernel
theorem d230_9 : decode (cod 230) 9 = .ok (.return_, 1) := by decide +kernel
theorem d230_10 : decode (cod 230) 10 = .ok (.iload_n 1, 1) := by decide +kernel
theorem d230_11 : decode (cod 230) 11 = .ok (.iload_n 2, 1) := by decide +kernel
theorem d230_12 : decode (cod 230) 12 = .ok (.if_icmp .ne 39, 3) := by decide +kernel
theorem d230_15 : decode (cod 230) 15 = .ok (.aload_n 0, 1) := by decide +kernel
theorem d230_16 : decode (cod 230) 16 = .ok (.iload 4, 2) := by decide +kernel
theorem d230_18 : decode (cod 230) 18 = .ok (.putfield 62, 3) := by decide +kernel
theorem d230_21 : decode (cod 230) 21 = .ok (.iconst 0, 1) := by decide +kernel
theorem d230_22 : decode (cod 230) 22 = .ok (.istore 5, 2) := by decide +kernel
theorem d230_24 : decode (cod 230) 24 = .ok (.iload 5, 2) := by decide +kernel
theorem d230_26 : decode (cod 230) 26 = .ok (.iload_n 2, 1) := by decide +kernel
theorem d230_27 : decode (cod 230) 27 = .ok (.if_icmp .ge 23, 3) := by decide +kernel
theorem d230_30 : decode (cod 230) 30 = .ok (.aload_n 0, 1) := by decide +kernel
theorem d230_31 : decode (cod 230) 31 = .ok (.getfield 20, 3) := by decide +kernel
theorem d230_34 : decode (cod 230) 34 = .ok (.iload 5, 2) := by decide +kernel
theorem d230_36 : decode (cod 230) 36 = .ok (.aload_n 0, 1) := by decide +kernel
theorem d230_37 : decode (cod 230) 37 = .ok (.getfield 17, 3) := by decide +kernel
theorem d230_40 : decode (cod 230) 40 = .ok (.iload 5, 2) := by decide +kernel
theorem d230_42 : decode (cod 230) 42 = .ok (.iaload, 1) := by decide +kernel
theorem d230_43 : decode (cod 230) 43 = .ok (.iastore, 1) := by decide +kernel
theorem d230_44 : decode (cod 230) 44 = .ok (.iinc 5 1, 3) := by decide +kernel
theorem d230_47 : decode (cod 230) 47 = .ok (.goto (-23), 3) := by decide +kernel
theorem d230_50 : decode (cod 230) 50 = .ok (.return_, 1) := by decide +kernel
theorem d230_51 : decode (cod 230) 51 = .ok (.iconst 0, 1) := by decide +kernel
theorem d230_52 : decode (cod 230) 52 = .ok (.istore 5, 2) := by decide +kernel
theorem d230_54 : decode (cod 230) 54 = .ok (.iload 5, 2) := by decide +kernel
theorem d230_56 : decode (cod 230) 56 = .ok (.iload_n 3, 1) := by decide +kernel
theorem d230_57 : decode (cod 230) 57 = .ok (.if_icmp .ge 136, 3) := by decide +kernel
theorem d230_60 : decode (cod 230) 60 = .ok (.iconst 0, 1) := by decide +kernel
theorem d230_61 : decode (cod 230) 61 = .ok (.istore 6, 2) := by decide +kernel
theorem d230_63 : decode (cod 230) 63 = .ok (.iconst 1, 1) := by decide +kernel
theorem d230_64 : decode (cod 230) 64 = .ok (.istore 7, 2) := by decide +kernel
theorem d230_66 : decode (cod 230) 66 = .ok (.iconst 0, 1) := by decide +kernel
theorem d230_67 : decode (cod 230) 67 = .ok (.istore 8, 2) := by decide +kernel
theorem d230_69 : decode (cod 230) 69 = .ok (.iload 8, 2) := by decide +kernel
theorem d230_71 : decode (cod 230) 71 = .ok (.iload_n 1, 1) := by decide +kernel
theorem d230_72 : decode (cod 230) 72 = .ok (.if_icmp .ge 85, 3) := by decide +kernel
theorem d230_75 : decode (cod 230) 75 = .ok (.iload 7, 2) := by decide +kernel
theorem d230_77 : decode (cod 230) 77 = .ok (.ifCond .eq 38, 3) := by decide +kernel
theorem d230_80 : decode (cod 230) 80 = .ok (.aload_n 0, 1) := by decide +kernel
theorem d230_81 : decode (cod 230) 81 = .ok (.getfield 17, 3) := by decide +kernel
theorem d230_84 : decode (cod 230) 84 = .ok (.iload 8, 2) := by decide +kernel
theorem d230_86 : decode (cod 230) 86 = .ok (.iaload, 1) := by decide +kernel
theorem d230_87 : decode (cod 230) 87 = .ok (.iload 5, 2) := by decide +kernel
theorem d230_89 : decode (cod 230) 89 = .ok (.if_icmp .ne 22, 3) := by decide +kernel
theorem d230_92 : decode (cod 230) 92 = .ok (.aload_n 0, 1) := by decide +kernel
theorem d230_93 : decode (cod 230) 93 = .ok (.getfield 13, 3) := by decide +kernel
theorem d230_96 : decode (cod 230) 96 = .ok (.sipush 2142, 3) := by decide +kernel
theorem d230_99 : decode (cod 230) 99 = .ok (.bipush 12, 2) := by decide +kernel
theorem d230_101 : decode (cod 230) 101 = .ok (.iload 8, 2) := by decide +kernel
theorem d230_103 : decode (cod 230) 103 = .ok (.imul, 1) := by decide +kernel
theorem d230_104 : decode (cod 230) 104 = .ok (.iadd, 1) := by decide +kernel
theorem d230_105 : decode (cod 230) 105 = .ok (.iload_n 1, 1) := by decide +kernel
theorem d230_106 : decode (cod 230) 106 = .ok (.iadd, 1) := by decide +kernel
theorem d230_107 : decode (cod 230) 107 = .ok (.iaload, 1) := by decide +kernel
theorem d230_108 : decode (cod 230) 108 = .ok (.ifCond .ne 7, 3) := by decide +kernel
theorem d230_111 : decode (cod 230) 111 = .ok (.iconst 1, 1) := by decide +kernel
theorem d230_112 : decode (cod 230) 112 = .ok (.goto 4, 3) := by decide +kernel
theorem d230_115 : decode (cod 230) 115 = .ok (.iconst 0, 1) := by decide +kernel
theorem d230_116 : decode (cod 230) 116 = .ok (.istore 7, 2) := by decide +kernel
theorem d230_118 : decode (cod 230) 118 = .ok (.iload 6, 2) := by decide +kernel
theorem d230_120 : decode (cod 230) 120 = .ok (.aload_n 0, 1) := by decide +kernel
theorem d230_121 : decode (cod 230) 121 = .ok (.getfield 17, 3) := by decide +kernel
theorem d230_124 : decode (cod 230) 124 = .ok (.iload 8, 2) := by decide +kernel
theorem d230_126 : decode (cod 230) 126 = .ok (.iaload, 1) := by decide +kernel
theorem d230_127 : decode (cod 230) 127 = .ok (.iload 5, 2) := by decide +kernel
theorem d230_129 : decode (cod 230) 129 = .ok (.if_icmp .ne 7, 3) := by decide +kernel
theorem d230_132 : decode (cod 230) 132 = .ok (.iconst 1, 1) := by decide +kernel
theorem d230_133 : decode (cod 230) 133 = .ok (.goto 15, 3) := by decide +kernel
theorem d230_136 : decode (cod 230) 136 = .ok (.aload_n 0, 1) := by decide +kernel
theorem d230_137 : decode (cod 230) 137 = .ok (.getfield 30, 3) := by decide +kernel
theorem d230_140 : decode (cod 230) 140 = .ok (.bipush 12, 2) := by decide +kernel
theorem d230_142 : decode (cod 230) 142 = .ok (.iload 8, 2) := by decide +kernel
theorem d230_144 : decode (cod 230) 144 = .ok (.imul, 1) := by decide +kernel
theorem d230_145 : decode (cod 230) 145 = .ok (.iload_n 1, 1) := by decide +kernel
theorem d230_146 : decode (cod 230) 146 = .ok (.iadd, 1) := by decide +kernel
theorem d230_147 : decode (cod 230) 147 = .ok (.iaload, 1) := by decide +kernel
theorem d230_148 : decode (cod 230) 148 = .ok (.iadd, 1) := by decide +kernel
theorem d230_149 : decode (cod 230) 149 = .ok (.istore 6, 2) := by decide +kernel
theorem d230_151 : decode (cod 230) 151 = .ok (.iinc 8 1, 3) := by decide +kernel
theorem d230_154 : decode (cod 230) 154 = .ok (.goto (-85), 3) := by decide +kernel
theorem d230_157 : decode (cod 230) 157 = .ok (.iload 7, 2) := by decide +kernel
theorem d230_159 : decode (cod 230) 159 = .ok (.ifCond .ne 6, 3) := by decide +kernel
theorem d230_162 : decode (cod 230) 162 = .ok (.goto 25, 3) := by decide +kernel
theorem d230_165 : decode (cod 230) 165 = .ok (.aload_n 0, 1) := by decide +kernel
theorem d230_166 : decode (cod 230) 166 = .ok (.getfield 17, 3) := by decide +kernel
theorem d230_169 : decode (cod 230) 169 = .ok (.iload_n 1, 1) := by decide +kernel
theorem d230_170 : decode (cod 230) 170 = .ok (.iload 5, 2) := by decide +kernel
theorem d230_172 : decode (cod 230) 172 = .ok (.iastore, 1) := by decide +kernel
theorem d230_173 : decode (cod 230) 173 = .ok (.aload_n 0, 1) := by decide +kernel
theorem d230_174 : decode (cod 230) 174 = .ok (.iload_n 1, 1) := by decide +kernel
theorem d230_175 : decode (cod 230) 175 = .ok (.iconst 1, 1) := by decide +kernel
theorem d230_176 : decode (cod 230) 176 = .ok (.iadd, 1) := by decide +kernel
theorem d230_177 : decode (cod 230) 177 = .ok (.iload_n 2, 1) := by decide +kernel
theorem d230_178 : decode (cod 230) 178 = .ok (.iload_n 3, 1) := by decide +kernel
theorem d230_179 : decode (cod 230) 179 = .ok (.iload 4, 2) := by decide +kernel
theorem d230_181 : decode (cod 230) 181 = .ok (.iload 6, 2) := by decide +kernel
theorem d230_183 : decode (cod 230) 183 = .ok (.iadd, 1) := by decide +kernel
theorem d230_184 : decode (cod 230) 184 = .ok (.invokevirtual 245, 3) := by decide +kernel
theorem d230_187 : decode (cod 230) 187 = .ok (.iinc 5 1, 3) := by decide +kernel
theorem d230_190 : decode (cod 230) 190 = .ok (.goto (-136), 3) := by decide +kernel
theorem d230_193 : decode (cod 230) 193 = .ok (.return_, 1) := by decide +kernel
theorem d231_0 : decode (cod 231) 0 = .ok (.iload_n 3, 1) := by decide +kernel
theorem d231_1 : decode (cod 231) 1 = .ok (.iconst (-1), 1) := by decide +kernel
theorem d231_2 : decode (cod 231) 2 = .ok (.if_icmp .eq 14, 3) := by decide +kernel
theorem d231_5 : decode (cod 231) 5 = .ok (.iload_n 3, 1) := by decide +kernel
theorem d231_6 : decode (cod 231) 6 = .ok (.ifCond .lt 8, 3) := by decide +kernel
theorem d231_9 : decode (cod 231) 9 = .ok (.iload_n 3, 1) := by decide +kernel
theorem d231_10 : decode (cod 231) 10 = .ok (.iload_n 1, 1) := by decide +kernel
theorem d231_11 : decode (cod 231) 11 = .ok (.if_icmp .lt 5, 3) := by decide +kernel
theorem d231_14 : decode (cod 231) 14 = .ok (.iconst (-1), 1) := by decide +kernel
theorem d231_15 : decode (cod 231) 15 = .ok (.ireturn, 1) := by decide +kernel
theorem d231_16 : decode (cod 231) 16 = .ok (.iload_n 1, 1) := by decide +kernel
theorem d231_17 : decode (cod 231) 17 = .ok (.iconst 1, 1) := by decide +kernel
theorem d231_18 : decode (cod 231) 18 = .ok (.bipush 7, 2) := by decide +kernel
theorem d231_20 : decode (cod 231) 20 = .ok (.invokestatic 36, 3) := by decide +kernel
theorem d231_23 : decode (cod 231) 23 = .ok (.ifCond .eq 22, 3) := by decide +kernel
theorem d231_26 : decode (cod 231) 26 = .ok (.iload_n 1, 1) := by decide +kernel
theorem d231_27 : decode (cod 231) 27 = .ok (.aload_n 0, 1) := by decide +kernel
theorem d231_28 : decode (cod 231) 28 = .ok (.getfield 13, 3) := by decide +kernel
theorem d231_31 : decode (cod 231) 31 = .ok (.iconst 0, 1) := by decide +kernel
theorem d231_32 : decode (cod 231) 32 = .ok (.iaload, 1) := by decide +kernel
theorem d231_33 : decode (cod 231) 33 = .ok (.if_icmp .gt 12, 3) := by decide +kernel
theorem d231_36 : decode (cod 231) 36 = .ok (.iload_n 2, 1) := by decide +kernel
theorem d231_37 : decode (cod 231) 37 = .ok (.iconst 1, 1) := by decide +kernel
theorem d231_38 : decode (cod 231) 38 = .ok (.iconst 3, 1) := by decide +kernel
theorem d231_39 : decode (cod 231) 39 = .ok (.invokestatic 36, 3) := by decide +kernel
theorem d231_42 : decode (cod 231) 42 = .ok (.ifCond .ne 6, 3) := by decide +kernel
theorem d231_45 : decode (cod 231) 45 = .ok (.bipush (-2), 2) := by decide +kernel
theorem d231_47 : decode (cod 231) 47 = .ok (.ireturn, 1) := by decide +kernel
theorem d231_48 : decode (cod 231) 48 = .ok (.iconst 0, 1) := by decide +kernel
theorem d231_49 : decode (cod 231) 49 = .ok (.istore 4, 2) := by decide +kernel
theorem d231_51 : decode (cod 231) 51 = .ok (.iload 4, 2) := by decide +kernel
theorem d231_53 : decode (cod 231) 53 = .ok (.iload_n 1, 1) := by decide +kernel
theorem d231_54 : decode (cod 231) 54 = .ok (.if_icmp .ge 45, 3) := by decide +kernel
theorem d231_57 : decode (cod 231) 57 = .ok (.iconst 0, 1) := by decide +kernel
theorem d231_58 : decode (cod 231) 58 = .ok (.istore 5, 2) := by decide +kernel
theorem d231_60 : decode (cod 231) 60 = .ok (.iload 5, 2) := by decide +kernel
theorem d231_62 : decode (cod 231) 62 = .ok (.iload_n 1, 1) := by decide +kernel
theorem d231_63 : decode (cod 231) 63 = .ok (.if_icmp .ge 30, 3) := by decide +kernel
theorem d231_66 : decode (cod 231) 66 = .ok (.aload_n 0, 1) := by decide +kernel
theorem d231_67 : decode (cod 231) 67 = .ok (.getfield 30, 3) := by decide +kernel
theorem d231_70 : decode (cod 231) 70 = .ok (.bipush 12, 2) := by decide +kernel
theorem d231_72 : decode (cod 231) 72 = .ok (.iload 4, 2) := by decide +kernel
theorem d231_74 : decode (cod 231) 74 = .ok (.imul, 1) := by decide +kernel
theorem d231_75 : decode (cod 231) 75 = .ok (.iload 5, 2) := by decide +kernel
theorem d231_77 : decode (cod 231) 77 = .ok (.iadd, 1) := by decide +kernel
theorem d231_78 : decode (cod 231) 78 = .ok (.aload_n 0, 1) := by decide +kernel
theorem d231_79 : decode (cod 231) 79 = .ok (.iload 4, 2) := by decide +kernel
theorem d231_81 : decode (cod 231) 81 = .ok (.iload 5, 2) := by decide +kernel
theorem d231_83 : decode (cod 231) 83 = .ok (.invokevirtual 248, 3) := by decide +kernel
theorem d231_86 : decode (cod 231) 86 = .ok (.iastore, 1) := by decide +kernel
theorem d231_87 : decode (cod 231) 87 = .ok (.iinc 5 1, 3) := by decide +kernel
theorem d231_90 : decode (cod 231) 90 = .ok (.goto (-30), 3) := by decide +kernel
theorem d231_93 : decode (cod 231) 93 = .ok (.iinc 4 1, 3) := by decide +kernel
theorem d231_96 : decode (cod 231) 96 = .ok (.goto (-45), 3) := by decide +kernel
theorem d231_99 : decode (cod 231) 99 = .ok (.aload_n 0, 1) := by decide +kernel
theorem d231_100 : decode (cod 231) 100 = .ok (.ldc 251, 2) := by decide +kernel
theorem d231_102 : decode (cod 231) 102 = .ok (.putfield 62, 3) := by decide +kernel
theorem d231_105 : decode (cod 231) 105 = .ok (.aload_n 0, 1) := by decide +kernel
theorem d231_106 : decode (cod 231) 106 = .ok (.iconst 0, 1) := by decide +kernel
theorem d231_107 : decode (cod 231) 107 = .ok (.iload_n 1, 1) := by decide +kernel
theorem d231_108 : decode (cod 231) 108 = .ok (.iload_n 2, 1) := by decide +kernel
theorem d231_109 : decode (cod 231) 109 = .ok (.iconst 0, 1) := by decide +kernel
theorem d231_110 : decode (cod 231) 110 = .ok (.invokevirtual 245, 3) := by decide +kernel
theorem d231_113 : decode (cod 231) 113 = .ok (.aload_n 0, 1) := by decide +kernel
theorem d231_114 : decode (cod 231) 114 = .ok (.getfield 62, 3) := by decide +kernel
theorem d231_117 : decode (cod 231) 117 = .ok (.ldc 251, 2) := by decide +kernel
theorem d231_119 : decode (cod 231) 119 = .ok (.if_icmp .ne 8, 3) := by decide +kernel
theorem d231_122 : decode (cod 231) 122 = .ok (.bipush (-5), 2) := by decide +kernel
theorem d231_124 : decode (cod 231) 124 = .ok (.goto 21, 3) := by decide +kernel
theorem d231_127 : decode (cod 231) 127 = .ok (.iload_n 3, 1) := by decide +kernel
theorem d231_128 : decode (cod 231) 128 = .ok (.iconst (-1), 1) := by decide +kernel
theorem d231_129 : decode (cod 231) 129 = .ok (.if_icmp .ne 10, 3) := by decide +kernel
theorem d231_132 : decode (cod 231) 132 = .ok (.aload_n 0, 1) := by decide +kernel
theorem d231_133 : decode (cod 231) 133 = .ok (.getfield 62, 3) := by decide +kernel
theorem d231_136 : decode (cod 231) 136 = .ok (.goto 9, 3) := by decide +kernel
theorem d231_139 : decode (cod 231) 139 = .ok (.aload_n 0, 1) := by decide +kernel
theorem d231_140 : decode (cod 231) 140 = .ok (.getfield 20, 3) := by decide +kernel
theorem d231_143 : decode (cod 231) 143 = .ok (.iload_n 3, 1) := by decide +kernel
theorem d231_144 : decode (cod 231) 144 = .ok (.iaload, 1) := by decide +kernel
theorem d231_145 : decode (cod 231) 145 = .ok (.ireturn, 1) := by decide +kernel
theorem d232_0 : decode (cod 232) 0 = .ok (.iload_n 3, 1) := by decide +kernel
theorem d232_1 : decode (cod 232) 1 = .ok (.iconst (-1), 1) := by decide +kernel
theorem d232_2 : decode (cod 232) 2 = .ok (.aload_n 0, 1) := by decide +kernel
theorem d232_3 : decode (cod 232) 3 = .ok (.getfield 13, 3) := by decide +kernel
theorem d232_6 : decode (cod 232) 6 = .ok (.bipush 7, 2) := by decide +kernel
theorem d232_8 : decode (cod 232) 8 = .ok (.iaload, 1) := by decide +kernel
theorem d232_9 : decode (cod 232) 9 = .ok (.iconst 1, 1) := by decide +kernel
theorem d232_10 : decode (cod 232) 10 = .ok (.isub, 1) := by decide +kernel
theorem d232_11 : decode (cod 232) 11 = .ok (.invokestatic 36, 3) := by decide +kernel
theorem d232_14 : decode (cod 232) 14 = .ok (.ifCond .ne 5, 3) := by decide +kernel
theorem d232_17 : decode (cod 232) 17 = .ok (.iconst (-1), 1) := by decide +kernel
theorem d232_18 : decode (cod 232) 18 = .ok (.ireturn, 1) := by decide +kernel
theorem d232_19 : decode (cod 232) 19 = .ok (.iload_n 1, 1) := by decide +kernel
theorem d232_20 : decode (cod 232) 20 = .ok (.iconst 0, 1) := by decide +kernel
theorem d232_21 : decode (cod 232) 21 = .ok (.iconst 1, 1) := by decide +kernel
theorem d232_22 : decode (cod 232) 22 = .ok (.aload_n 0, 1) := by decide +kernel
theorem d232_23 : decode (cod 232) 23 = .ok (.getfield 13, 3) := by decide +kernel
theorem d232_26 : decode (cod 232) 26 = .ok (.iconst 0, 1) := by decide +kernel
theorem d232_27 : decode (cod 232) 27 = .ok (.iaload, 1) := by decide +kernel
theorem d232_28 : decode (cod 232) 28 = .ok (.ishl, 1) := by decide +kernel
theorem d232_29 : decode (cod 232) 29 = .ok (.iconst 1, 1) := by decide +kernel
theorem d232_30 : decode (cod 232) 30 = .ok (.isub, 1) := by decide +kernel
theorem d232_31 : decode (cod 232) 31 = .ok (.invokestatic 36, 3) := by decide +kernel
theorem d232_34 : decode (cod 232) 34 = .ok (.ifCond .eq 15, 3) := by decide +kernel
theorem d232_37 : decode (cod 232) 37 = .ok (.iload_n 2, 1) := by decide +kernel
theorem d232_38 : decode (cod 232) 38 = .ok (.iconst 0, 1) := by decide +kernel
theorem d232_39 : decode (cod 232) 39 = .ok (.iload_n 1, 1) := by decide +kernel
theorem d232_40 : decode (cod 232) 40 = .ok (.invokestatic 55, 3) := by decide +kernel
theorem d232_43 : decode (cod 232) 43 = .ok (.invokestatic 36, 3) := by decide +kernel
theorem d232_46 : decode (cod 232) 46 = .ok (.ifCond .ne 6, 3) := by decide +kernel
theorem d232_49 : decode (cod 232) 49 = .ok (.bipush (-2), 2) := by decide +kernel
theorem d232_51 : decode (cod 232) 51 = .ok (.ireturn, 1) := by decide +kernel
theorem d232_52 : decode (cod 232) 52 = .ok (.aload_n 0, 1) := by decide +kernel
theorem d232_53 : decode (cod 232) 53 = .ok (.getfield 13, 3) := by decide +kernel
theorem d232_56 : decode (cod 232) 56 = .ok (.bipush 7, 2) := by decide +kernel
theorem d232_58 : decode (cod 232) 58 = .ok (.iaload, 1) := by decide +kernel
theorem d232_59 : decode (cod 232) 59 = .ok (.bipush 10, 2) := by decide +kernel
theorem d232_61 : decode (cod 232) 61 = .ok (.if_icmp .ne 6, 3) := by decide +kernel
theorem d232_64 : decode (cod 232) 64 = .ok (.bipush (-4), 2) := by decide +kernel
theorem d232_66 : decode (cod 232) 66 = .ok (.ireturn, 1) := by decide +kernel
theorem d232_67 : decode (cod 232) 67 = .ok (.sipush 2286, 3) := by decide +kernel
theorem d232_70 : decode (cod 232) 70 = .ok (.iconst 5, 1) := by decide +kernel
theorem d232_71 : decode (cod 232) 71 = .ok (.aload_n 0, 1) := by decide +kernel
theorem d232_72 : decode (cod 232) 72 = .ok (.getfield 13, 3) := by decide +kernel
theorem d232_75 : decode (cod 232) 75 = .ok (.bipush 7, 2) := by decide +kernel
theorem d232_77 : decode (cod 232) 77 = .ok (.iaload, 1) := by decide +kernel
theorem d232_78 : decode (cod 232) 78 = .ok (.imul, 1) := by decide +kernel
theorem d232_79 : decode (cod 232) 79 = .ok (.iadd, 1) := by decide +kernel
theorem d232_80 : decode (cod 232) 80 = .ok (.istore 4, 2) := by decide +kernel
theorem d232_82 : decode (cod 232) 82 = .ok (.aload_n 0, 1) := by decide +kernel
theorem d232_83 : decode (cod 232) 83 = .ok (.getfield 13, 3) := by decide +kernel
theorem d232_86 : decode (cod 232) 86 = .ok (.iload 4, 2) := by decide +kernel
theorem d232_88 : decode (cod 232) 88 = .ok (.iload_n 1, 1) := by decide +kernel
theorem d232_89 : decode (cod 232) 89 = .ok (.invokestatic 55, 3) := by decide +kernel
theorem d232_92 : decode (cod 232) 92 = .ok (.iastore, 1) := by decide +kernel
theorem d232_93 : decode (cod 232) 93 = .ok (.aload_n 0, 1) := by decide +kernel
theorem d232_94 : decode (cod 232) 94 = .ok (.getfield 13, 3) := by decide +kernel
theorem d232_97 : decode (cod 232) 97 = .ok (.iload 4, 2) := by decide +kernel
theorem d232_99 : decode (cod 232) 99 = .ok (.iconst 1, 1) := by decide +kernel
theorem d232_100 : decode (cod 232) 100 = .ok (.iadd, 1) := by decide +kernel
theorem d232_101 : decode (cod 232) 101 = .ok (.iload_n 2, 1) := by decide +kernel
theorem d232_102 : decode (cod 232) 102 = .ok (.iastore, 1) := by decide +kernel
theorem d232_103 : decode (cod 232) 103 = .ok (.aload_n 0, 1) := by decide +kernel
theorem d232_104 : decode (cod 232) 104 = .ok (.getfield 13, 3) := by decide +kernel
theorem d232_107 : decode (cod 232) 107 = .ok (.iload 4, 2) := by decide +kernel
theorem d232_109 : decode (cod 232) 109 = .ok (.iconst 2, 1) := by decide +kernel
theorem d232_110 : decode (cod 232) 110 = .ok (.iadd, 1) := by decide +kernel
theorem d232_111 : decode (cod 232) 111 = .ok (.iload_n 3, 1) := by decide +kernel
theorem d232_112 : decode (cod 232) 112 = .ok (.iastore, 1) := by decide +kernel
theorem d232_113 : decode (cod 232) 113 = .ok (.aload_n 0, 1) := by decide +kernel
theorem d232_114 : decode (cod 232) 114 = .ok (.getfield 13, 3) := by decide +kernel
theorem d232_117 : decode (cod 232) 117 = .ok (.iload 4, 2) := by decide +kernel
theorem d232_119 : decode (cod 232) 119 = .ok (.iconst 3, 1) := by decide +kernel
theorem d232_120 : decode (cod 232) 120 = .ok (.iadd, 1) := by decide +kernel
theorem d232_121 : decode (cod 232) 121 = .ok (.aload_n 0, 1) := by decide +kernel
theorem d232_122 : decode (cod 232) 122 = .ok (.getfield 13, 3) := by decide +kernel
theorem d232_125 : decode (cod 232) 125 = .ok (.iconst 0, 1) := by decide +kernel
theorem d232_126 : decode (cod 232) 126 = .ok (.iaload, 1) := by decide +kernel
theorem d232_127 : decode (cod 232) 127 = .ok (.iastore, 1) := by decide +kernel
theorem d232_128 : decode (cod 232) 128 = .ok (.aload_n 0, 1) := by decide +kernel
theorem d232_129 : decode (cod 232) 129 = .ok (.getfield 13, 3) := by decide +kernel
theorem d232_132 : decode (cod 232) 132 = .ok (.iload 4, 2) := by decide +kernel
theorem d232_134 : decode (cod 232) 134 = .ok (.iconst 4, 1) := by decide +kernel
theorem d232_135 : decode (cod 232) 135 = .ok (.iadd, 1) := by decide +kernel
theorem d232_136 : decode (cod 232) 136 = .ok (.iconst 0, 1) := by decide +kernel
theorem d232_137 : decode (cod 232) 137 = .ok (.iastore, 1) := by decide +kernel
theorem d232_138 : decode (cod 232) 138 = .ok (.aload_n 0, 1) := by decide +kernel
theorem d232_139 : decode (cod 232) 139 = .ok (.getfield 13, 3) := by decide +kernel
theorem d232_142 : decode (cod 232) 142 = .ok (.bipush 7, 2) := by decide +kernel
theorem d232_144 : decode (cod 232) 144 = .ok (.dup2, 1) := by decide +kernel
theorem d232_145 : decode (cod 232) 145 = .ok (.iaload, 1) := by decide +kernel
theorem d232_146 : decode (cod 232) 146 = .ok (.iconst 1, 1) := by decide +kernel
theorem d232_147 : decode (cod 232) 147 = .ok (.iadd, 1) := by decide +kernel
theorem d232_148 : decode (cod 232) 148 = .ok (.iastore, 1) := by decide +kernel
theorem d232_149 : decode (cod 232) 149 = .ok (.aload_n 0, 1) := by decide +kernel
theorem d232_150 : decode (cod 232) 150 = .ok (.getfield 13, 3) := by decide +kernel
theorem d232_153 : decode (cod 232) 153 = .ok (.bipush 7, 2) := by decide +kernel
theorem d232_155 : decode (cod 232) 155 = .ok (.iaload, 1) := by decide +kernel
theorem d232_156 : decode (cod 232) 156 = .ok (.iconst 1, 1) := by decide +kernel
theorem d232_157 : decode (cod 232) 157 = .ok (.isub, 1) := by decide +kernel
theorem d232_158 : decode (cod 232) 158 = .ok (.ireturn, 1) := by decide +kernel
theorem d233_0 : decode (cod 233) 0 = .ok (.iload_n 1, 1) := by decide +kernel
theorem d233_1 : decode (cod 233) 1 = .ok (.iconst 0, 1) := by decide +kernel
theorem d233_2 : decode (cod 233) 2 = .ok (.aload_n 0, 1) := by decide +kernel
theorem d233_3 : decode (cod 233) 3 = .ok (.getfield 13, 3) := by decide +kernel
theorem d233_6 : decode (cod 233) 6 = .ok (.bipush 7, 2) := by decide +kernel
theorem d233_8 : decode (cod 233) 8 = .ok (.iaload, 1) := by decide +kernel
theorem d233_9 : decode (cod 233) 9 = .ok (.iconst 1, 1) := by decide +kernel
theorem d233_10 : decode (cod 233) 10 = .ok (.isub, 1) := by decide +kernel
theorem d233_11 : decode (cod 233) 11 = .ok (.invokestatic 36, 3) := by decide +kernel
theorem d233_14 : decode (cod 233) 14 = .ok (.ifCond .ne 5, 3) := by decide +kernel
theorem d233_17 : decode (cod 233) 17 = .ok (.iconst (-1), 1) := by decide +kernel
theorem d233_18 : decode (cod 233) 18 = .ok (.ireturn, 1) := by decide +kernel
theorem d233_19 : decode (cod 233) 19 = .ok (.aload_n 0, 1) := by decide +kernel
theorem d233_20 : decode (cod 233) 20 = .ok (.getfield 13, 3) := by decide +kernel
theorem d233_23 : decode (cod 233) 23 = .ok (.sipush 2286, 3) := by decide +kernel
theorem d233_26 : decode (cod 233) 26 = .ok (.iconst 5, 1) := by decide +kernel
theorem d233_27 : decode (cod 233) 27 = .ok (.iload_n 1, 1) := by decide +kernel
theorem d233_28 : decode (cod 233) 28 = .ok (.imul, 1) := by decide +kernel
theorem d233_29 : decode (cod 233) 29 = .ok (.iadd, 1) := by decide +kernel
theorem d233_30 : decode (cod 233) 30 = .ok (.iconst 4, 1) := by decide +kernel
theorem d233_31 : decode (cod 233) 31 = .ok (.iadd, 1) := by decide +kernel
theorem d233_32 : decode (cod 233) 32 = .ok (.iaload, 1) := by decide +kernel
theorem d233_33 : decode (cod 233) 33 = .ok (.istore_n 2, 1) := by decide +kernel
theorem d233_34 : decode (cod 233) 34 = .ok (.aload_n 0, 1) := by decide +kernel
theorem d233_35 : decode (cod 233) 35 = .ok (.getfield 13, 3) := by decide +kernel
theorem d233_38 : decode (cod 233) 38 = .ok (.sipush 2286, 3) := by decide +kernel
theorem d233_41 : decode (cod 233) 41 = .ok (.iconst 5, 1) := by decide +kernel
theorem d233_42 : decode (cod 233) 42 = .ok (.iload_n 1, 1) := by decide +kernel
theorem d233_43 : decode (cod 233) 43 = .ok (.imul, 1) := by decide +kernel
theorem d233_44 : decode (cod 233) 44 = .ok (.iadd, 1) := by decide +kernel
theorem d233_45 : decode (cod 233) 45 = .ok (.iconst 4, 1) := by decide +kernel
theorem d233_46 : decode (cod 233) 46 = .ok (.iadd, 1) := by decide +kernel
theorem d233_47 : decode (cod 233) 47 = .ok (.iconst 1, 1) := by decide +kernel
theorem d233_48 : decode (cod 233) 48 = .ok (.iastore, 1) := by decide +kernel
theorem d233_49 : decode (cod 233) 49 = .ok (.iconst 1, 1) := by decide +kernel
theorem d233_50 : decode (cod 233) 50 = .ok (.iload_n 2, 1) := by decide +kernel
theorem d233_51 : decode (cod 233) 51 = .ok (.isub, 1) := by decide +kernel
theorem d233_52 : decode (cod 233) 52 = .ok (.ireturn, 1) := by decide +kernel
theorem d234_0 : decode (cod 234) 0 = .ok (.iconst 0, 1) := by decide +kernel
theorem d234_1 : decode (cod 234) 1 = .ok (.istore_n 1, 1) := by decide +kernel
theorem d234_2 : decode (cod 234) 2 = .ok (.iconst 0, 1) := by decide +kernel
theorem d234_3 : decode (cod 234) 3 = .ok (.istore_n 2, 1) := by decide +kernel
theorem d234_4 : decode (cod 234) 4 = .ok (.iload_n 2, 1) := by decide +kernel
theorem d234_5 : decode (cod 234) 5 = .ok (.aload_n 0, 1) := by decide +kernel
theorem d234_6 : decode (cod 234) 6 = .ok (.getfield 13, 3) := by decide +kernel
theorem d234_9 : decode (cod 234) 9 = .ok (.bipush 7, 2) := by decide +kernel
theorem d234_11 : decode (cod 234) 11 = .ok (.iaload, 1) := by decide +kernel
theorem d234_12 : decode (cod 234) 12 = .ok (.if_icmp .ge 116, 3) := by decide +kernel
theorem d234_15 : decode (cod 234) 15 = .ok (.sipush 2286, 3) := by decide +kernel
theorem d234_18 : decode (cod 234) 18 = .ok (.iconst 5, 1) := by decide +kernel
theorem d234_19 : decode (cod 234) 19 = .ok (.iload_n 2, 1) := by decide +kernel
theorem d234_20 : decode (cod 234) 20 = .ok (.imul, 1) := by decide +kernel
theorem d234_21 : decode (cod 234) 21 = .ok (.iadd, 1) := by decide +kernel
theorem d234_22 : decode (cod 234) 22 = .ok (.istore_n 3, 1) := by decide +kernel
theorem d234_23 : decode (cod 234) 23 = .ok (.iconst 2, 1) := by decide +kernel
theorem d234_24 : decode (cod 234) 24 = .ok (.aload_n 0, 1) := by decide +kernel
theorem d234_25 : decode (cod 234) 25 = .ok (.getfield 13, 3) := by decide +kernel
theorem d234_28 : decode (cod 234) 28 = .ok (.iload_n 3, 1) := by decide +kernel
theorem d234_29 : decode (cod 234) 29 = .ok (.iaload, 1) := by decide +kernel
theorem d234_30 : decode (cod 234) 30 = .ok (.imul, 1) := by decide +kernel
theorem d234_31 : decode (cod 234) 31 = .ok (.aload_n 0, 1) := by decide +kernel
theorem d234_32 : decode (cod 234) 32 = .ok (.getfield 13, 3) := by decide +kernel
theorem d234_35 : decode (cod 234) 35 = .ok (.iload_n 3, 1) := by decide +kernel
theorem d234_36 : decode (cod 234) 36 = .ok (.iconst 3, 1) := by decide +kernel
theorem d234_37 : decode (cod 234) 37 = .ok (.iadd, 1) := by decide +kernel
theorem d234_38 : decode (cod 234) 38 = .ok (.iaload, 1) := by decide +kernel
theorem d234_39 : decode (cod 234) 39 = .ok (.if_icmp .lt 37, 3) := by decide +kernel
theorem d234_42 : decode (cod 234) 42 = .ok (.iconst 2, 1) := by decide +kernel
theorem d234_43 : decode (cod 234) 43 = .ok (.aload_n 0, 1) := by decide +kernel
theorem d234_44 : decode (cod 234) 44 = .ok (.getfield 13, 3) := by decide +kernel
theorem d234_47 : decode (cod 234) 47 = .ok (.iload_n 3, 1) := by decide +kernel
theorem d234_48 : decode (cod 234) 48 = .ok (.iconst 1, 1) := by decide +kernel
theorem d234_49 : decode (cod 234) 49 = .ok (.iadd, 1) := by decide +kernel
theorem d234_50 : decode (cod 234) 50 = .ok (.iaload, 1) := by decide +kernel
theorem d234_51 : decode (cod 234) 51 = .ok (.imul, 1) := by decide +kernel
theorem d234_52 : decode (cod 234) 52 = .ok (.aload_n 0, 1) := by decide +kernel
theorem d234_53 : decode (cod 234) 53 = .ok (.getfield 13, 3) := by decide +kernel
theorem d234_56 : decode (cod 234) 56 = .ok (.iload_n 3, 1) := by decide +kernel
theorem d234_57 : decode (cod 234) 57 = .ok (.iaload, 1) := by decide +kernel
theorem d234_58 : decode (cod 234) 58 = .ok (.if_icmp .le 18, 3) := by decide +kernel
theorem d234_61 : decode (cod 234) 61 = .ok (.aload_n 0, 1) := by decide +kernel
theorem d234_62 : decode (cod 234) 62 = .ok (.getfield 13, 3) := by decide +kernel
theorem d234_65 : decode (cod 234) 65 = .ok (.iload_n 3, 1) := by decide +kernel
theorem d234_66 : decode (cod 234) 66 = .ok (.iconst 4, 1) := by decide +kernel
theorem d234_67 : decode (cod 234) 67 = .ok (.iadd, 1) := by decide +kernel
theorem d234_68 : decode (cod 234) 68 = .ok (.iaload, 1) := by decide +kernel
theorem d234_69 : decode (cod 234) 69 = .ok (.ifCond .ne 7, 3) := by decide +kernel
theorem d234_72 : decode (cod 234) 72 = .ok (.iconst 1, 1) := by decide +kernel
theorem d234_73 : decode (cod 234) 73 = .ok (.goto 4, 3) := by decide +kernel
theorem d234_76 : decode (cod 234) 76 = .ok (.iconst 0, 1) := by decide +kernel
theorem d234_77 : decode (cod 234) 77 = .ok (.istore 4, 2) := by decide +kernel
theorem d234_79 : decode (cod 234) 79 = .ok (.iload_n 1, 1) := by decide +kernel
theorem d234_80 : decode (cod 234) 80 = .ok (.iload 4, 2) := by decide +kernel
theorem d234_82 : decode (cod 234) 82 = .ok (.ifCond .eq 37, 3) := by decide +kernel
theorem d234_85 : decode (cod 234) 85 = .ok (.aload_n 0, 1) := by decide +kernel
theorem d234_86 : decode (cod 234) 86 = .ok (.getfield 13, 3) := by decide +kernel
theorem d234_89 : decode (cod 234) 89 = .ok (.iload_n 3, 1) := by decide +kernel
theorem d234_90 : decode (cod 234) 90 = .ok (.iconst 2, 1) := by decide +kernel
theorem d234_91 : decode (cod 234) 91 = .ok (.iadd, 1) := by decide +kernel
theorem d234_92 : decode (cod 234) 92 = .ok (.iaload, 1) := by decide +kernel
theorem d234_93 : decode (cod 234) 93 = .ok (.iconst (-1), 1) := by decide +kernel
theorem d234_94 : decode (cod 234) 94 = .ok (.if_icmp .eq 19, 3) := by decide +kernel
theorem d234_97 : decode (cod 234) 97 = .ok (.iload_n 1, 1) := by decide +kernel
theorem d234_98 : decode (cod 234) 98 = .ok (.aload_n 0, 1) := by decide +kernel
theorem d234_99 : decode (cod 234) 99 = .ok (.getfield 13, 3) := by decide +kernel
theorem d234_102 : decode (cod 234) 102 = .ok (.iload_n 3, 1) := by decide +kernel
theorem d234_103 : decode (cod 234) 103 = .ok (.iconst 2, 1) := by decide +kernel
theorem d234_104 : decode (cod 234) 104 = .ok (.iadd, 1) := by decide +kernel
theorem d234_105 : decode (cod 234) 105 = .ok (.iaload, 1) := by decide +kernel
theorem d234_106 : decode (cod 234) 106 = .ok (.ishr, 1) := by decide +kernel
theorem d234_107 : decode (cod 234) 107 = .ok (.iconst 1, 1) := by decide +kernel
theorem d234_108 : decode (cod 234) 108 = .ok (.iand, 1) := by decide +kernel
theorem d234_109 : decode (cod 234) 109 = .ok (.iconst 1, 1) := by decide +kernel
theorem d234_110 : decode (cod 234) 110 = .ok (.if_icmp .ne 9, 3) := by decide +kernel
theorem d234_113 : decode (cod 234) 113 = .ok (.iconst 1, 1) := by decide +kernel
theorem d234_114 : decode (cod 234) 114 = .ok (.iload_n 2, 1) := by decide +kernel
theorem d234_115 : decode (cod 234) 115 = .ok (.ishl, 1) := by decide +kernel
theorem d234_116 : decode (cod 234) 116 = .ok (.goto 4, 3) := by decide +kernel
theorem d234_119 : decode (cod 234) 119 = .ok (.iconst 0, 1) := by decide +kernel
theorem d234_120 : decode (cod 234) 120 = .ok (.ior, 1) := by decide +kernel
theorem d234_121 : decode (cod 234) 121 = .ok (.istore_n 1, 1) := by decide +kernel
theorem d234_122 : decode (cod 234) 122 = .ok (.iinc 2 1, 3) := by decide +kernel
theorem d234_125 : decode (cod 234) 125 = .ok (.goto (-121), 3) := by decide +kernel
theorem d234_128 : decode (cod 234) 128 = .ok (.iload_n 1, 1) := by decide +kernel
theorem d234_129 : decode (cod 234) 129 = .ok (.ireturn, 1) := by decide +kernel
theorem d235_0 : decode (cod 235) 0 = .ok (.aload_n 0, 1) := by decide +kernel
theorem d235_1 : decode (cod 235) 1 = .ok (.sipush 2336, 3) := by decide +kernel
theorem d235_4 : decode (cod 235) 4 = .ok (.iload_n 3, 1) := by decide +kernel
theorem d235_5 : decode (cod 235) 5 = .ok (.iload_n 1, 1) := by decide +kernel
theorem d235_6 : decode (cod 235) 6 = .ok (.iload_n 2, 1) := by decide +kernel
theorem d235_7 : decode (cod 235) 7 = .ok (.invokevirtual 143, 3) := by decide +kernel
theorem d235_10 : decode (cod 235) 10 = .ok (.aload_n 0, 1) := by decide +kernel
theorem d235_11 : decode (cod 235) 11 = .ok (.getfield 126, 3) := by decide +kernel
theorem d235_14 : decode (cod 235) 14 = .ok (.ifCond .eq 10, 3) := by decide +kernel
theorem d235_17 : decode (cod 235) 17 = .ok (.aload_n 0, 1) := by decide +kernel
theorem d235_18 : decode (cod 235) 18 = .ok (.getfield 132, 3) := by decide +kernel
theorem d235_21 : decode (cod 235) 21 = .ok (.goto 13, 3) := by decide +kernel
theorem d235_24 : decode (cod 235) 24 = .ok (.aload_n 0, 1) := by decide +kernel
theorem d235_25 : decode (cod 235) 25 = .ok (.iload_n 1, 1) := by decide +kernel
theorem d235_26 : decode (cod 235) 26 = .ok (.iload_n 2, 1) := by decide +kernel
theorem d235_27 : decode (cod 235) 27 = .ok (.aload_n 0, 1) := by decide +kernel
theorem d235_28 : decode (cod 235) 28 = .ok (.invokevirtual 44, 3) := by decide +kernel
theorem d235_31 : decode (cod 235) 31 = .ok (.invokevirtual 164, 3) := by decide +kernel
theorem d235_34 : decode (cod 235) 34 = .ok (.ireturn, 1) := by decide +kernel
theorem d236_0 : decode (cod 236) 0 = .ok (.iload_n 1, 1) := by decide +kernel
theorem d236_1 : decode (cod 236) 1 = .ok (.iconst 0, 1) := by decide +kernel
theorem d236_2 : decode (cod 236) 2 = .ok (.iconst 1, 1) := by decide +kernel
theorem d236_3 : decode (cod 236) 3 = .ok (.invokestatic 36, 3) := by decide +kernel
theorem d236_6 : decode (cod 236) 6 = .ok (.ifCond .eq 15, 3) := by decide +kernel
theorem d236_9 : decode (cod 236) 9 = .ok (.iload_n 1, 1) := by decide +kernel
theorem d236_10 : decode (cod 236) 10 = .ok (.ifCond .ne 13, 3) := by decide +kernel
theorem d236_13 : decode (cod 236) 13 = .ok (.aload_n 0, 1) := by decide +kernel
theorem d236_14 : decode (cod 236) 14 = .ok (.iload_n 2, 1) := by decide +kernel
theorem d236_15 : decode (cod 236) 15 = .ok (.invokevirtual 157, 3) := by decide +kernel
theorem d236_18 : decode (cod 236) 18 = .ok (.ifCond .ne 5, 3) := by decide +kernel
theorem d236_21 : decode (cod 236) 21 = .ok (.iconst (-1), 1) := by decide +kernel
theorem d236_22 : decode (cod 236) 22 = .ok (.ireturn, 1) := by decide +kernel
theorem d236_23 : decode (cod 236) 23 = .ok (.aload_n 0, 1) := by decide +kernel
theorem d236_24 : decode (cod 236) 24 = .ok (.getfield 13, 3) := by decide +kernel
theorem d236_27 : decode (cod 236) 27 = .ok (.bipush 8, 2) := by decide +kernel
theorem d236_29 : decode (cod 236) 29 = .ok (.iaload, 1) := by decide +kernel
theorem d236_30 : decode (cod 236) 30 = .ok (.istore_n 3, 1) := by decide +kernel
theorem d236_31 : decode (cod 236) 31 = .ok (.aload_n 0, 1) := by decide +kernel
theorem d236_32 : decode (cod 236) 32 = .ok (.sipush 2336, 3) := by decide +kernel
theorem d236_35 : decode (cod 236) 35 = .ok (.iload_n 3, 1) := by decide +kernel
theorem d236_36 : decode (cod 236) 36 = .ok (.iconst (-1), 1) := by decide +kernel
theorem d236_37 : decode (cod 236) 37 = .ok (.iconst (-1), 1) := by decide +kernel
theorem d236_38 : decode (cod 236) 38 = .ok (.invokevirtual 143, 3) := by decide +kernel
theorem d236_41 : decode (cod 236) 41 = .ok (.aload_n 0, 1) := by decide +kernel
theorem d236_42 : decode (cod 236) 42 = .ok (.getfield 13, 3) := by decide +kernel
theorem d236_45 : decode (cod 236) 45 = .ok (.bipush 8, 2) := by decide +kernel
theorem d236_47 : decode (cod 236) 47 = .ok (.iconst 0, 1) := by decide +kernel
theorem d236_48 : decode (cod 236) 48 = .ok (.iastore, 1) := by decide +kernel
theorem d236_49 : decode (cod 236) 49 = .ok (.aload_n 0, 1) := by decide +kernel
theorem d236_50 : decode (cod 236) 50 = .ok (.getfield 81, 3) := by decide +kernel
theorem d236_53 : decode (cod 236) 53 = .ok (.ifCond .eq 11, 3) := by decide +kernel
theorem d236_56 : decode (cod 236) 56 = .ok (.bipush (-10), 2) := by decide +kernel
theorem d236_58 : decode (cod 236) 58 = .ok (.aload_n 0, 1) := by decide +kernel
theorem d236_59 : decode (cod 236) 59 = .ok (.getfield 72, 3) := by decide +kernel
theorem d236_62 : decode (cod 236) 62 = .ok (.isub, 1) := by decide +kernel
theorem d236_63 : decode (cod 236) 63 = .ok (.ireturn, 1) := by decide +kernel
theorem d236_64 : decode (cod 236) 64 = .ok (.iload_n 1, 1) := by decide +kernel
theorem d236_65 : decode (cod 236) 65 = .ok (.ifCond .ne 16, 3) := by decide +kernel
theorem d236_68 : decode (cod 236) 68 = .ok (.aload_n 0, 1) := by decide +kernel
theorem d236_69 : decode (cod 236) 69 = .ok (.iload_n 2, 1) := by decide +kernel
theorem d236_70 : decode (cod 236) 70 = .ok (.aload_n 0, 1) := by decide +kernel
theorem d236_71 : decode (cod 236) 71 = .ok (.iconst 0, 1) := by decide +kernel
theorem d236_72 : decode (cod 236) 72 = .ok (.iload_n 2, 1) := by decide +kernel
theorem d236_73 : decode (cod 236) 73 = .ok (.iload_n 3, 1) := by decide +kernel
theorem d236_74 : decode (cod 236) 74 = .ok (.invokevirtual 252, 3) := by decide +kernel
theorem d236_77 : decode (cod 236) 77 = .ok (.invokevirtual 171, 3) := by decide +kernel
theorem d236_80 : decode (cod 236) 80 = .ok (.ireturn, 1) := by decide +kernel
theorem d236_81 : decode (cod 236) 81 = .ok (.iconst 0, 1) := by decide +kernel
theorem d236_82 : decode (cod 236) 82 = .ok (.istore 4, 2) := by decide +kernel
theorem d236_84 : decode (cod 236) 84 = .ok (.iconst 0, 1) := by decide +kernel
theorem d236_85 : decode (cod 236) 85 = .ok (.istore 5, 2) := by decide +kernel
theorem d236_87 : decode (cod 236) 87 = .ok (.iload 5, 2) := by decide +kernel
theorem d236_89 : decode (cod 236) 89 = .ok (.aload_n 0, 1) := by decide +kernel
theorem d236_90 : decode (cod 236) 90 = .ok (.getfield 13, 3) := by decide +kernel
theorem d236_93 : decode (cod 236) 93 = .ok (.iconst 2, 1) := by decide +kernel
theorem d236_94 : decode (cod 236) 94 = .ok (.iaload, 1) := by decide +kernel
theorem d236_95 : decode (cod 236) 95 = .ok (.if_icmp .ge 22, 3) := by decide +kernel
theorem d236_98 : decode (cod 236) 98 = .ok (.iload 4, 2) := by decide +kernel
theorem d236_100 : decode (cod 236) 100 = .ok (.aload_n 0, 1) := by decide +kernel
theorem d236_101 : decode (cod 236) 101 = .ok (.iconst 5, 1) := by decide +kernel
theorem d236_102 : decode (cod 236) 102 = .ok (.iload 5, 2) := by decide +kernel
theorem d236_104 : decode (cod 236) 104 = .ok (.iload_n 3, 1) := by decide +kernel
theorem d236_105 : decode (cod 236) 105 = .ok (.invokevirtual 252, 3) := by decide +kernel
theorem d236_108 : decode (cod 236) 108 = .ok (.iadd, 1) := by decide +kernel
theorem d236_109 : decode (cod 236) 109 = .ok (.istore 4, 2) := by decide +kernel
theorem d236_111 : decode (cod 236) 111 = .ok (.iinc 5 1, 3) := by decide +kernel
theorem d236_114 : decode (cod 236) 114 = .ok (.goto (-27), 3) := by decide +kernel
theorem d236_117 : decode (cod 236) 117 = .ok (.iload 4, 2) := by decide +kernel
theorem d236_119 : decode (cod 236) 119 = .ok (.ireturn, 1) := by decide +kernel
theorem d237_0 : decode (cod 237) 0 = .ok (.iconst 0, 1) := by decide +kernel
theorem d237_1 : decode (cod 237) 1 = .ok (.istore_n 1, 1) := by decide +kernel
theorem d237_2 : decode (cod 237) 2 = .ok (.iload_n 1, 1) := by decide +kernel
theorem d237_3 : decode (cod 237) 3 = .ok (.sipush 2456, 3) := by decide +kernel
theorem d237_6 : decode (cod 237) 6 = .ok (.if_icmp .ge 21, 3) := by decide +kernel
theorem d237_9 : decode (cod 237) 9 = .ok (.aload_n 0, 1) := by decide +kernel
theorem d237_10 : decode (cod 237) 10 = .ok (.getfield 33, 3) := by decide +kernel
theorem d237_13 : decode (cod 237) 13 = .ok (.iload_n 1, 1) := by decide +kernel
theorem d237_14 : decode (cod 237) 14 = .ok (.aload_n 0, 1) := by decide +kernel
theorem d237_15 : decode (cod 237) 15 = .ok (.getfield 13, 3) := by decide +kernel
theorem d237_18 : decode (cod 237) 18 = .ok (.iload_n 1, 1) := by decide +kernel
theorem d237_19 : decode (cod 237) 19 = .ok (.iaload, 1) := by decide +kernel
theorem d237_20 : decode (cod 237) 20 = .ok (.iastore, 1) := by decide +kernel
theorem d237_21 : decode (cod 237) 21 = .ok (.iinc 1 1, 3) := by decide +kernel
theorem d237_24 : decode (cod 237) 24 = .ok (.goto (-22), 3) := by decide +kernel
theorem d237_27 : decode (cod 237) 27 = .ok (.aload_n 0, 1) := by decide +kernel
theorem d237_28 : decode (cod 237) 28 = .ok (.iconst 1, 1) := by decide +kernel
theorem d237_29 : decode (cod 237) 29 = .ok (.putfield 255, 3) := by decide +kernel
theorem d237_32 : decode (cod 237) 32 = .ok (.aload_n 0, 1) := by decide +kernel
theorem d237_33 : decode (cod 237) 33 = .ok (.getfield 13, 3) := by decide +kernel
theorem d237_36 : decode (cod 237) 36 = .ok (.iconst 3, 1) := by decide +kernel
theorem d237_37 : decode (cod 237) 37 = .ok (.iaload, 1) := by decide +kernel
theorem d237_38 : decode (cod 237) 38 = .ok (.ireturn, 1) := by decide +kernel
theorem d238_0 : decode (cod 238) 0 = .ok (.aload_n 0, 1) := by decide +kernel
theorem d238_1 : decode (cod 238) 1 = .ok (.getfield 255, 3) := by decide +kernel
theorem d238_4 : decode (cod 238) 4 = .ok (.ifCond .ne 6, 3) := by decide +kernel
theorem d238_7 : decode (cod 238) 7 = .ok (.bipush (-3), 2) := by decide +kernel
theorem d238_9 : decode (cod 238) 9 = .ok (.ireturn, 1) := by decide +kernel
theorem d238_10 : decode (cod 238) 10 = .ok (.iconst 0, 1) := by decide +kernel
theorem d238_11 : decode (cod 238) 11 = .ok (.istore_n 1, 1) := by decide +kernel
theorem d238_12 : decode (cod 238) 12 = .ok (.iload_n 1, 1) := by decide +kernel
theorem d238_13 : decode (cod 238) 13 = .ok (.sipush 2456, 3) := by decide +kernel
theorem d238_16 : decode (cod 238) 16 = .ok (.if_icmp .ge 21, 3) := by decide +kernel
theorem d238_19 : decode (cod 238) 19 = .ok (.aload_n 0, 1) := by decide +kernel
theorem d238_20 : decode (cod 238) 20 = .ok (.getfield 13, 3) := by decide +kernel
theorem d238_23 : decode (cod 238) 23 = .ok (.iload_n 1, 1) := by decide +kernel
theorem d238_24 : decode (cod 238) 24 = .ok (.aload_n 0, 1) := by decide +kernel
theorem d238_25 : decode (cod 238) 25 = .ok (.getfield 33, 3) := by decide +kernel
theorem d238_28 : decode (cod 238) 28 = .ok (.iload_n 1, 1) := by decide +kernel
theorem d238_29 : decode (cod 238) 29 = .ok (.iaload, 1) := by decide +kernel
theorem d238_30 : decode (cod 238) 30 = .ok (.iastore, 1) := by decide +kernel
theorem d238_31 : decode (cod 238) 31 = .ok (.iinc 1 1, 3) := by decide +kernel
theorem d238_34 : decode (cod 238) 34 = .ok (.goto (-22), 3) := by decide +kernel
theorem d238_37 : decode (cod 238) 37 = .ok (.aload_n 0, 1) := by decide +kernel
theorem d238_38 : decode (cod 238) 38 = .ok (.getfield 13, 3) := by decide +kernel
theorem d238_41 : decode (cod 238) 41 = .ok (.iconst 3, 1) := by decide +kernel
theorem d238_42 : decode (cod 238) 42 = .ok (.iaload, 1) := by decide +kernel
theorem d238_43 : decode (cod 238) 43 = .ok (.ireturn, 1) := by decide +kernel
theorem d239_0 : decode (cod 239) 0 = .ok (.iconst 0, 1) := by decide +kernel
theorem d239_1 : decode (cod 239) 1 = .ok (.istore_n 2, 1) := by decide +kernel
theorem d239_2 : decode (cod 239) 2 = .ok (.iconst 0, 1) := by decide +kernel
theorem d239_3 : decode (cod 239) 3 = .ok (.istore_n 3, 1) := by decide +kernel
theorem d239_4 : decode (cod 239) 4 = .ok (.iload_n 3, 1) := by decide +kernel
theorem d239_5 : decode (cod 239) 5 = .ok (.aload_n 0, 1) := by decide +kernel
theorem d239_6 : decode (cod 239) 6 = .ok (.getfield 13, 3) := by decide +kernel
theorem d239_9 : decode (cod 239) 9 = .ok (.iconst 2, 1) := by decide +kernel
theorem d239_10 : decode (cod 239) 10 = .ok (.iaload, 1) := by decide +kernel
theorem d239_11 : decode (cod 239) 11 = .ok (.if_icmp .ge 27, 3) := by decide +kernel
theorem d239_14 : decode (cod 239) 14 = .ok (.iload_n 2, 1) := by decide +kernel
theorem d239_15 : decode (cod 239) 15 = .ok (.aload_n 0, 1) := by decide +kernel
theorem d239_16 : decode (cod 239) 16 = .ok (.iload_n 3, 1) := by decide +kernel
theorem d239_17 : decode (cod 239) 17 = .ok (.iconst 5, 1) := by decide +kernel
theorem d239_18 : decode (cod 239) 18 = .ok (.invokevirtual 104, 3) := by decide +kernel
theorem d239_21 : decode (cod 239) 21 = .ok (.iload_n 1, 1) := by decide +kernel
theorem d239_22 : decode (cod 239) 22 = .ok (.if_icmp .ne 7, 3) := by decide +kernel
theorem d239_25 : decode (cod 239) 25 = .ok (.iconst 1, 1) := by decide +kernel
theorem d239_26 : decode (cod 239) 26 = .ok (.goto 4, 3) := by decide +kernel
theorem d239_29 : decode (cod 239) 29 = .ok (.iconst 0, 1) := by decide +kernel
theorem d239_30 : decode (cod 239) 30 = .ok (.iadd, 1) := by decide +kernel
theorem d239_31 : decode (cod 239) 31 = .ok (.istore_n 2, 1) := by decide +kernel
theorem d239_32 : decode (cod 239) 32 = .ok (.iinc 3 1, 3) := by decide +kernel
theorem d239_35 : decode (cod 239) 35 = .ok (.goto (-31), 3) := by decide +kernel
theorem d239_38 : decode (cod 239) 38 = .ok (.iload_n 2, 1) := by decide +kernel
theorem d239_39 : decode (cod 239) 39 = .ok (.ireturn, 1) := by decide +kernel
theorem d240_0 : decode (cod 240) 0 = .ok (.iload_n 1, 1) := by decide +kernel
theorem d240_1 : decode (cod 240) 1 = .ok (.tableswitch 113 0 8 #[51, 58, 65, 72, 79, 85, 91, 97, 105], 51) := by decide +kernel
theorem d240_52 : decode (cod 240) 52 = .ok (.aload_n 0, 1) := by decide +kernel
theorem d240_53 : decode (cod 240) 53 = .ok (.getfield 13, 3) := by decide +kernel
theorem d240_56 : decode (cod 240) 56 = .ok (.iconst 0, 1) := by decide +kernel
theorem d240_57 : decode (cod 240) 57 = .ok (.iaload, 1) := by decide +kernel
theorem d240_58 : decode (cod 240) 58 = .ok (.ireturn, 1) := by decide +kernel
theorem d240_59 : decode (cod 240) 59 = .ok (.aload_n 0, 1) := by decide +kernel
theorem d240_60 : decode (cod 240) 60 = .ok (.getfield 13, 3) := by decide +kernel
theorem d240_63 : decode (cod 240) 63 = .ok (.iconst 1, 1) := by decide +kernel
theorem d240_64 : decode (cod 240) 64 = .ok (.iaload, 1) := by decide +kernel
theorem d240_65 : decode (cod 240) 65 = .ok (.ireturn, 1) := by decide +kernel
theorem d240_66 : decode (cod 240) 66 = .ok (.aload_n 0, 1) := by decide +kernel
theorem d240_67 : decode (cod 240) 67 = .ok (.getfield 13, 3) := by decide +kernel
theorem d240_70 : decode (cod 240) 70 = .ok (.iconst 2, 1) := by decide +kernel
theorem d240_71 : decode (cod 240) 71 = .ok (.iaload, 1) := by decide +kernel
theorem d240_72 : decode (cod 240) 72 = .ok (.ireturn, 1) := by decide +kernel
theorem d240_73 : decode (cod 240) 73 = .ok (.aload_n 0, 1) := by decide +kernel
theorem d240_74 : decode (cod 240) 74 = .ok (.getfield 13, 3) := by decide +kernel
theorem d240_77 : decode (cod 240) 77 = .ok (.iconst 3, 1) := by decide +kernel
theorem d240_78 : decode (cod 240) 78 = .ok (.iaload, 1) := by decide +kernel
theorem d240_79 : decode (cod 240) 79 = .ok (.ireturn, 1) := by decide +kernel
theorem d240_80 : decode (cod 240) 80 = .ok (.aload_n 0, 1) := by decide +kernel
theorem d240_81 : decode (cod 240) 81 = .ok (.iconst 0, 1) := by decide +kernel
theorem d240_82 : decode (cod 240) 82 = .ok (.invokevirtual 258, 3) := by decide +kernel
theorem d240_85 : decode (cod 240) 85 = .ok (.ireturn, 1) := by decide +kernel
theorem d240_86 : decode (cod 240) 86 = .ok (.aload_n 0, 1) := by decide +kernel
theorem d240_87 : decode (cod 240) 87 = .ok (.iconst 1, 1) := by decide +kernel
theorem d240_88 : decode (cod 240) 88 = .ok (.invokevirtual 258, 3) := by decide +kernel
theorem d240_91 : decode (cod 240) 91 = .ok (.ireturn, 1) := by decide +kernel
theorem d240_92 : decode (cod 240) 92 = .ok (.aload_n 0, 1) := by decide +kernel
theorem d240_93 : decode (cod 240) 93 = .ok (.iconst 3, 1) := by decide +kernel
theorem d240_94 : decode (cod 240) 94 = .ok (.invokevirtual 258, 3) := by decide +kernel
theorem d240_97 : decode (cod 240) 97 = .ok (.ireturn, 1) := by decide +kernel
theorem d240_98 : decode (cod 240) 98 = .ok (.aload_n 0, 1) := by decide +kernel
theorem d240_99 : decode (cod 240) 99 = .ok (.getfield 13, 3) := by decide +kernel
theorem d240_102 : decode (cod 240) 102 = .ok (.bipush 8, 2) := by decide +kernel
theorem d240_104 : decode (cod 240) 104 = .ok (.iaload, 1) := by decide +kernel
theorem d240_105 : decode (cod 240) 105 = .ok (.ireturn, 1) := by decide +kernel
theorem d240_106 : decode (cod 240) 106 = .ok (.aload_n 0, 1) := by decide +kernel
theorem d240_107 : decode (cod 240) 107 = .ok (.getfield 13, 3) := by decide +kernel
theorem d240_110 : decode (cod 240) 110 = .ok (.bipush 7, 2) := by decide +kernel
theorem d240_112 : decode (cod 240) 112 = .ok (.iaload, 1) := by decide +kernel
theorem d240_113 : decode (cod 240) 113 = .ok (.ireturn, 1) := by decide +kernel
theorem d240_114 : decode (cod 240) 114 = .ok (.iconst (-1), 1) := by decide +kernel
theorem d240_115 : decode (cod 240) 115 = .ok (.ireturn, 1) := by decide +kernel
theorem d241_0 : decode (cod 241) 0 = .ok (.iload_n 0, 1) := by decide +kernel
theorem d241_1 : decode (cod 241) 1 = .ok (.iload_n 0, 1) := by decide +kernel
theorem d241_2 : decode (cod 241) 2 = .ok (.iconst 1, 1) := by decide +kernel
theorem d241_3 : decode (cod 241) 3 = .ok (.iushr, 1) := by decide +kernel
theorem d241_4 : decode (cod 241) 4 = .ok (.ldc_w 265, 3) := by decide +kernel
theorem d241_7 : decode (cod 241) 7 = .ok (.iand, 1) := by decide +kernel
theorem d241_8 : decode (cod 241) 8 = .ok (.isub, 1) := by decide +kernel
theorem d241_9 : decode (cod 241) 9 = .ok (.istore_n 0, 1) := by decide +kernel
theorem d241_10 : decode (cod 241) 10 = .ok (.iload_n 0, 1) := by decide +kernel
theorem d241_11 : decode (cod 241) 11 = .ok (.ldc_w 266, 3) := by decide +kernel
theorem d241_14 : decode (cod 241) 14 = .ok (.iand, 1) := by decide +kernel
theorem d241_15 : decode (cod 241) 15 = .ok (.iload_n 0, 1) := by decide +kernel
theorem d241_16 : decode (cod 241) 16 = .ok (.iconst 2, 1) := by decide +kernel
theorem d241_17 : decode (cod 241) 17 = .ok (.iushr, 1) := by decide +kernel
theorem d241_18 : decode (cod 241) 18 = .ok (.ldc_w 266, 3) := by decide +kernel
theorem d241_21 : decode (cod 241) 21 = .ok (.iand, 1) := by decide +kernel
theorem d241_22 : decode (cod 241) 22 = .ok (.iadd, 1) := by decide +kernel
theorem d241_23 : decode (cod 241) 23 = .ok (.istore_n 0, 1) := by decide +kernel
theorem d241_24 : decode (cod 241) 24 = .ok (.iload_n 0, 1) := by decide +kernel
theorem d241_25 : decode (cod 241) 25 = .ok (.iload_n 0, 1) := by decide +kernel
theorem d241_26 : decode (cod 241) 26 = .ok (.iconst 4, 1) := by decide +kernel
theorem d241_27 : decode (cod 241) 27 = .ok (.iushr, 1) := by decide +kernel
theorem d241_28 : decode (cod 241) 28 = .ok (.iadd, 1) := by decide +kernel
theorem d241_29 : decode (cod 241) 29 = .ok (.ldc_w 267, 3) := by decide +kernel
theorem d241_32 : decode (cod 241) 32 = .ok (.iand, 1) := by decide +kernel
theorem d241_33 : decode (cod 241) 33 = .ok (.istore_n 0, 1) := by decide +kernel
theorem d241_34 : decode (cod 241) 34 = .ok (.iload_n 0, 1) := by decide +kernel
theorem d241_35 : decode (cod 241) 35 = .ok (.iload_n 0, 1) := by decide +kernel
theorem d241_36 : decode (cod 241) 36 = .ok (.bipush 8, 2) := by decide +kernel
theorem d241_38 : decode (cod 241) 38 = .ok (.iushr, 1) := by decide +kernel
theorem d241_39 : decode (cod 241) 39 = .ok (.iadd, 1) := by decide +kernel
theorem d241_40 : decode (cod 241) 40 = .ok (.istore_n 0, 1) := by decide +kernel
theorem d241_41 : decode (cod 241) 41 = .ok (.iload_n 0, 1) := by decide +kernel
theorem d241_42 : decode (cod 241) 42 = .ok (.iload_n 0, 1) := by decide +kernel
theorem d241_43 : decode (cod 241) 43 = .ok (.bipush 16, 2) := by decide +kernel
theorem d241_45 : decode (cod 241) 45 = .ok (.iushr, 1) := by decide +kernel
theorem d241_46 : decode (cod 241) 46 = .ok (.iadd, 1) := by decide +kernel
theorem d241_47 : decode (cod 241) 47 = .ok (.istore_n 0, 1) := by decide +kernel
theorem d241_48 : decode (cod 241) 48 = .ok (.iload_n 0, 1) := by decide +kernel
theorem d241_49 : decode (cod 241) 49 = .ok (.bipush 63, 2) := by decide +kernel
theorem d241_51 : decode (cod 241) 51 = .ok (.iand, 1) := by decide +kernel
theorem d241_52 : decode (cod 241) 52 = .ok (.ireturn, 1) := by decide +kernel
theorem d242_0 : decode (cod 242) 0 = .ok (.lload_n 0, 1) := by decide +kernel
theorem d242_1 : decode (cod 242) 1 = .ok (.lload_n 0, 1) := by decide +kernel
theorem d242_2 : decode (cod 242) 2 = .ok (.iconst 1, 1) := by decide +kernel
theorem d242_3 : decode (cod 242) 3 = .ok (.lushr, 1) := by decide +kernel
theorem d242_4 : decode (cod 242) 4 = .ok (.ldc2_w 314, 3) := by decide +kernel
theorem d242_7 : decode (cod 242) 7 = .ok (.land, 1) := by decide +kernel
theorem d242_8 : decode (cod 242) 8 = .ok (.lsub, 1) := by decide +kernel
theorem d242_9 : decode (cod 242) 9 = .ok (.lstore_n 0, 1) := by decide +kernel
theorem d242_10 : decode (cod 242) 10 = .ok (.lload_n 0, 1) := by decide +kernel
theorem d242_11 : decode (cod 242) 11 = .ok (.ldc2_w 316, 3) := by decide +kernel
theorem d242_14 : decode (cod 242) 14 = .ok (.land, 1) := by decide +kernel
theorem d242_15 : decode (cod 242) 15 = .ok (.lload_n 0, 1) := by decide +kernel
theorem d242_16 : decode (cod 242) 16 = .ok (.iconst 2, 1) := by decide +kernel
theorem d242_17 : decode (cod 242) 17 = .ok (.lushr, 1) := by decide +kernel
theorem d242_18 : decode (cod 242) 18 = .ok (.ldc2_w 316, 3) := by decide +kernel
theorem d242_21 : decode (cod 242) 21 = .ok (.land, 1) := by decide +kernel
theorem d242_22 : decode (cod 242) 22 = .ok (.ladd, 1) := by decide +kernel
theorem d242_23 : decode (cod 242) 23 = .ok (.lstore_n 0, 1) := by decide +kernel
theorem d242_24 : decode (cod 242) 24 = .ok (.lload_n 0, 1) := by decide +kernel
theorem d242_25 : decode (cod 242) 25 = .ok (.lload_n 0, 1) := by decide +kernel
theorem d242_26 : decode (cod 242) 26 = .ok (.iconst 4, 1) := by decide +kernel
theorem d242_27 : decode (cod 242) 27 = .ok (.lushr, 1) := by decide +kernel
theorem d242_28 : decode (cod 242) 28 = .ok (.ladd, 1) := by decide +kernel
theorem d242_29 : decode (cod 242) 29 = .ok (.ldc2_w 318, 3) := by decide +kernel
theorem d242_32 : decode (cod 242) 32 = .ok (.land, 1) := by decide +kernel
theorem d242_33 : decode (cod 242) 33 = .ok (.lstore_n 0, 1) := by decide +kernel
theorem d242_34 : decode (cod 242) 34 = .ok (.lload_n 0, 1) := by decide +kernel
theorem d242_35 : decode (cod 242) 35 = .ok (.lload_n 0, 1) := by decide +kernel
theorem d242_36 : decode (cod 242) 36 = .ok (.bipush 8, 2) := by decide +kernel
theorem d242_38 : decode (cod 242) 38 = .ok (.lushr, 1) := by decide +kernel
theorem d242_39 : decode (cod 242) 39 = .ok (.ladd, 1) := by decide +kernel
theorem d242_40 : decode (cod 242) 40 = .ok (.lstore_n 0, 1) := by decide +kernel
theorem d242_41 : decode (cod 242) 41 = .ok (.lload_n 0, 1) := by decide +kernel
theorem d242_42 : decode (cod 242) 42 = .ok (.lload_n 0, 1) := by decide +kernel
theorem d242_43 : decode (cod 242) 43 = .ok (.bipush 16, 2) := by decide +kernel
theorem d242_45 : decode (cod 242) 45 = .ok (.lushr, 1) := by decide +kernel
theorem d242_46 : decode (cod 242) 46 = .ok (.ladd, 1) := by decide +kernel
theorem d242_47 : decode (cod 242) 47 = .ok (.lstore_n 0, 1) := by decide +kernel
theorem d242_48 : decode (cod 242) 48 = .ok (.lload_n 0, 1) := by decide +kernel
theorem d242_49 : decode (cod 242) 49 = .ok (.lload_n 0, 1) := by decide +kernel
theorem d242_50 : decode (cod 242) 50 = .ok (.bipush 32, 2) := by decide +kernel
theorem d242_52 : decode (cod 242) 52 = .ok (.lushr, 1) := by decide +kernel
theorem d242_53 : decode (cod 242) 53 = .ok (.ladd, 1) := by decide +kernel
theorem d242_54 : decode (cod 242) 54 = .ok (.lstore_n 0, 1) := by decide +kernel
theorem d242_55 : decode (cod 242) 55 = .ok (.lload_n 0, 1) := by decide +kernel
theorem d242_56 : decode (cod 242) 56 = .ok (.l2i, 1) := by decide +kernel
theorem d242_57 : decode (cod 242) 57 = .ok (.bipush 127, 2) := by decide +kernel
theorem d242_59 : decode (cod 242) 59 = .ok (.iand, 1) := by decide +kernel
theorem d242_60 : decode (cod 242) 60 = .ok (.ireturn, 1) := by decide +kernel
theorem d243_0 : decode (cod 243) 0 = .ok (.aload_n 0, 1) := by decide +kernel
theorem d243_1 : decode (cod 243) 1 = .ok (.getfield 9, 3) := by decide +kernel
theorem d243_4 : decode (cod 243) 4 = .ok (.arraylength, 1) := by decide +kernel
theorem d243_5 : decode (cod 243) 5 = .ok (.aload_n 0, 1) := by decide +kernel
theorem d243_6 : decode (cod 243) 6 = .ok (.invokevirtual 335, 3) := by decide +kernel
theorem d243_9 : decode (cod 243) 9 = .ok (.ishr, 1) := by decide +kernel
theorem d243_10 : decode (cod 243) 10 = .ok (.ireturn, 1) := by decide +kernel
theorem d244_0 : decode (cod 244) 0 = .ok (.aload_n 0, 1) := by decide +kernel
theorem d244_1 : decode (cod 244) 1 = .ok (.invokevirtual 492, 3) := by decide +kernel
theorem d244_4 : decode (cod 244) 4 = .ok (.ifCond .eq 12, 3) := by decide +kernel
theorem d244_7 : decode (cod 244) 7 = .ok (.aload_n 0, 1) := by decide +kernel
theorem d244_8 : decode (cod 244) 8 = .ok (.getfield 9, 3) := by decide +kernel
theorem d244_11 : decode (cod 244) 11 = .ok (.iload_n 1, 1) := by decide +kernel
theorem d244_12 : decode (cod 244) 12 = .ok (.invokestatic 495, 3) := by decide +kernel
theorem d244_15 : decode (cod 244) 15 = .ok (.ireturn, 1) := by decide +kernel
theorem d244_16 : decode (cod 244) 16 = .ok (.aload_n 0, 1) := by decide +kernel
theorem d244_17 : decode (cod 244) 17 = .ok (.getfield 9, 3) := by decide +kernel
theorem d244_20 : decode (cod 244) 20 = .ok (.iload_n 1, 1) := by decide +kernel
theorem d244_21 : decode (cod 244) 21 = .ok (.invokestatic 498, 3) := by decide +kernel
theorem d244_24 : decode (cod 244) 24 = .ok (.ireturn, 1) := by decide +kernel
theorem d245_0 : decode (cod 245) 0 = .ok (.getstatic 38, 3) := by decide +kernel
theorem d245_3 : decode (cod 245) 3 = .ok (.ifCond .eq 10, 3) := by decide +kernel
theorem d245_6 : decode (cod 245) 6 = .ok (.aload_n 0, 1) := by decide +kernel
theorem d245_7 : decode (cod 245) 7 = .ok (.getfield 15, 3) := by decide +kernel
theorem d245_10 : decode (cod 245) 10 = .ok (.goto 4, 3) := by decide +kernel
theorem d245_13 : decode (cod 245) 13 = .ok (.iconst 1, 1) := by decide +kernel
theorem d245_14 : decode (cod 245) 14 = .ok (.ireturn, 1) := by decide +kernel
theorem d246_0 : decode (cod 246) 0 = .ok (.getstatic 38, 3) := by decide +kernel
theorem d246_3 : decode (cod 246) 3 = .ok (.ifCond .eq 14, 3) := by decide +kernel
theorem d246_6 : decode (cod 246) 6 = .ok (.aload_n 0, 1) := by decide +kernel
theorem d246_7 : decode (cod 246) 7 = .ok (.getfield 15, 3) := by decide +kernel
theorem d246_10 : decode (cod 246) 10 = .ok (.ifCond .ne 7, 3) := by decide +kernel
theorem d246_13 : decode (cod 246) 13 = .ok (.iconst 1, 1) := by decide +kernel
theorem d246_14 : decode (cod 246) 14 = .ok (.goto 4, 3) := by decide +kernel
theorem d246_17 : decode (cod 246) 17 = .ok (.iconst 0, 1) := by decide +kernel
theorem d246_18 : decode (cod 246) 18 = .ok (.ireturn, 1) := by decide +kernel
theorem d247_0 : decode (cod 247) 0 = .ok (.iload_n 0, 1) := by decide +kernel
theorem d247_1 : decode (cod 247) 1 = .ok (.iload_n 1, 1) := by decide +kernel
theorem d247_2 : decode (cod 247) 2 = .ok (.getstatic 1053, 3) := by decide +kernel
theorem d247_5 : decode (cod 247) 5 = .ok (.invokestatic 1059, 3) := by decide +kernel
theorem d247_8 : decode (cod 247) 8 = .ok (.pop, 1) := by decide +kernel
theorem d247_9 : decode (cod 247) 9 = .ok (.return_, 1) := by decide +kernel
theorem d248_0 : decode (cod 248) 0 = .ok (.iload_n 1, 1) := by decide +kernel
theorem d248_1 : decode (cod 248) 1 = .ok (.aload_n 0, 1) := by decide +kernel
theorem d248_2 : decode (cod 248) 2 = .ok (.arraylength, 1) := by decide +kernel
theorem d248_3 : decode (cod 248) 3 = .ok (.invokestatic 9, 3) := by decide +kernel
theorem d248_6 : decode (cod 248) 6 = .ok (.aload_n 0, 1) := by decide +kernel
theorem d248_7 : decode (cod 248) 7 = .ok (.iload_n 1, 1) := by decide +kernel
theorem d248_8 : decode (cod 248) 8 = .ok (.baload, 1) := by decide +kernel
theorem d248_9 : decode (cod 248) 9 = .ok (.sipush 255, 3) := by decide +kernel
theorem d248_12 : decode (cod 248) 12 = .ok (.iand, 1) := by decide +kernel
theorem d248_13 : decode (cod 248) 13 = .ok (.i2c, 1) := by decide +kernel
theorem d248_14 : decode (cod 248) 14 = .ok (.ireturn, 1) := by decide +kernel
theorem d249_0 : decode (cod 249) 0 = .ok (.iload_n 0, 1) := by decide +kernel
theorem d249_1 : decode (cod 249) 1 = .ok (.ifCond .lt 8, 3) := by decide +kernel
theorem d249_4 : decode (cod 249) 4 = .ok (.iload_n 0, 1) := by decide +kernel
theorem d249_5 : decode (cod 249) 5 = .ok (.iload_n 1, 1) := by decide +kernel
theorem d249_6 : decode (cod 249) 6 = .ok (.if_icmp .lt 10, 3) := by decide +kernel
theorem d249_9 : decode (cod 249) 9 = .ok (.aload_n 2, 1) := by decide +kernel
theorem d249_10 : decode (cod 249) 10 = .ok (.iload_n 0, 1) := by decide +kernel
theorem d249_11 : decode (cod 249) 11 = .ok (.iload_n 1, 1) := by decide +kernel
theorem d249_12 : decode (cod 249) 12 = .ok (.invokestatic 95, 3) := by decide +kernel
theorem d249_15 : decode (cod 249) 15 = .ok (.athrow, 1) := by decide +kernel
theorem d249_16 : decode (cod 249) 16 = .ok (.iload_n 0, 1) := by decide +kernel
theorem d249_17 : decode (cod 249) 17 = .ok (.ireturn, 1) := by decide +kernel
