/-! what stands at each place of the code (by wip/whole/gen17.py) -/
theorem d41_0 : decode (cod 41) 0 = .ok (.aload_n 0, 1) := by decide +kernel
theorem d41_1 : decode (cod 41) 1 = .ok (.getfield 9, 3) := by decide +kernel
theorem d41_4 : decode (cod 41) 4 = .ok (.bipush 12, 2) := by decide +kernel
theorem d41_6 : decode (cod 41) 6 = .ok (.if_icmp .lt 6, 3) := by decide +kernel
theorem d41_9 : decode (cod 41) 9 = .ok (.bipush (-4), 2) := by decide +kernel
theorem d41_11 : decode (cod 41) 11 = .ok (.ireturn, 1) := by decide +kernel
theorem d41_12 : decode (cod 41) 12 = .ok (.aload_n 0, 1) := by decide +kernel
theorem d41_13 : decode (cod 41) 13 = .ok (.getfield 15, 3) := by decide +kernel
theorem d41_16 : decode (cod 41) 16 = .ok (.aload_n 0, 1) := by decide +kernel
theorem d41_17 : decode (cod 41) 17 = .ok (.getfield 9, 3) := by decide +kernel
theorem d41_20 : decode (cod 41) 20 = .ok (.iload_n 1, 1) := by decide +kernel
theorem d41_21 : decode (cod 41) 21 = .ok (.iastore, 1) := by decide +kernel
theorem d41_22 : decode (cod 41) 22 = .ok (.aload_n 0, 1) := by decide +kernel
theorem d41_23 : decode (cod 41) 23 = .ok (.getfield 19, 3) := by decide +kernel
theorem d41_26 : decode (cod 41) 26 = .ok (.aload_n 0, 1) := by decide +kernel
theorem d41_27 : decode (cod 41) 27 = .ok (.getfield 9, 3) := by decide +kernel
theorem d41_30 : decode (cod 41) 30 = .ok (.iload_n 2, 1) := by decide +kernel
theorem d41_31 : decode (cod 41) 31 = .ok (.iastore, 1) := by decide +kernel
theorem d41_32 : decode (cod 41) 32 = .ok (.aload_n 0, 1) := by decide +kernel
theorem d41_33 : decode (cod 41) 33 = .ok (.getfield 22, 3) := by decide +kernel
theorem d41_36 : decode (cod 41) 36 = .ok (.aload_n 0, 1) := by decide +kernel
theorem d41_37 : decode (cod 41) 37 = .ok (.getfield 9, 3) := by decide +kernel
theorem d41_40 : decode (cod 41) 40 = .ok (.iload_n 3, 1) := by decide +kernel
theorem d41_41 : decode (cod 41) 41 = .ok (.iastore, 1) := by decide +kernel
theorem d41_42 : decode (cod 41) 42 = .ok (.aload_n 0, 1) := by decide +kernel
theorem d41_43 : decode (cod 41) 43 = .ok (.getfield 28, 3) := by decide +kernel
theorem d41_46 : decode (cod 41) 46 = .ok (.aload_n 0, 1) := by decide +kernel
theorem d41_47 : decode (cod 41) 47 = .ok (.getfield 9, 3) := by decide +kernel
theorem d41_50 : decode (cod 41) 50 = .ok (.iload 4, 2) := by decide +kernel
theorem d41_52 : decode (cod 41) 52 = .ok (.iastore, 1) := by decide +kernel
theorem d41_53 : decode (cod 41) 53 = .ok (.aload_n 0, 1) := by decide +kernel
theorem d41_54 : decode (cod 41) 54 = .ok (.dup, 1) := by decide +kernel
theorem d41_55 : decode (cod 41) 55 = .ok (.getfield 9, 3) := by decide +kernel
theorem d41_58 : decode (cod 41) 58 = .ok (.dup_x1, 1) := by decide +kernel
theorem d41_59 : decode (cod 41) 59 = .ok (.iconst 1, 1) := by decide +kernel
theorem d41_60 : decode (cod 41) 60 = .ok (.iadd, 1) := by decide +kernel
theorem d41_61 : decode (cod 41) 61 = .ok (.putfield 9, 3) := by decide +kernel
theorem d41_64 : decode (cod 41) 64 = .ok (.ireturn, 1) := by decide +kernel
theorem d42_0 : decode (cod 42) 0 = .ok (.aload_n 0, 1) := by decide +kernel
theorem d42_1 : decode (cod 42) 1 = .ok (.iload_n 1, 1) := by decide +kernel
theorem d42_2 : decode (cod 42) 2 = .ok (.invokevirtual 40, 3) := by decide +kernel
theorem d42_5 : decode (cod 42) 5 = .ok (.ifCond .eq 12, 3) := by decide +kernel
theorem d42_8 : decode (cod 42) 8 = .ok (.aload_n 0, 1) := by decide +kernel
theorem d42_9 : decode (cod 42) 9 = .ok (.getfield 15, 3) := by decide +kernel
theorem d42_12 : decode (cod 42) 12 = .ok (.iload_n 1, 1) := by decide +kernel
theorem d42_13 : decode (cod 42) 13 = .ok (.iaload, 1) := by decide +kernel
theorem d42_14 : decode (cod 42) 14 = .ok (.goto 4, 3) := by decide +kernel
theorem d42_17 : decode (cod 42) 17 = .ok (.iconst (-1), 1) := by decide +kernel
theorem d42_18 : decode (cod 42) 18 = .ok (.ireturn, 1) := by decide +kernel
theorem d43_0 : decode (cod 43) 0 = .ok (.aload_n 0, 1) := by decide +kernel
theorem d43_1 : decode (cod 43) 1 = .ok (.iload_n 1, 1) := by decide +kernel
theorem d43_2 : decode (cod 43) 2 = .ok (.invokevirtual 40, 3) := by decide +kernel
theorem d43_5 : decode (cod 43) 5 = .ok (.ifCond .eq 14, 3) := by decide +kernel
theorem d43_8 : decode (cod 43) 8 = .ok (.iconst 1, 1) := by decide +kernel
theorem d43_9 : decode (cod 43) 9 = .ok (.aload_n 0, 1) := by decide +kernel
theorem d43_10 : decode (cod 43) 10 = .ok (.getfield 15, 3) := by decide +kernel
theorem d43_13 : decode (cod 43) 13 = .ok (.iload_n 1, 1) := by decide +kernel
theorem d43_14 : decode (cod 43) 14 = .ok (.iaload, 1) := by decide +kernel
theorem d43_15 : decode (cod 43) 15 = .ok (.ishl, 1) := by decide +kernel
theorem d43_16 : decode (cod 43) 16 = .ok (.goto 4, 3) := by decide +kernel
theorem d43_19 : decode (cod 43) 19 = .ok (.iconst 0, 1) := by decide +kernel
theorem d43_20 : decode (cod 43) 20 = .ok (.ireturn, 1) := by decide +kernel
theorem d44_0 : decode (cod 44) 0 = .ok (.aload_n 0, 1) := by decide +kernel
theorem d44_1 : decode (cod 44) 1 = .ok (.iload_n 1, 1) := by decide +kernel
theorem d44_2 : decode (cod 44) 2 = .ok (.invokevirtual 40, 3) := by decide +kernel
theorem d44_5 : decode (cod 44) 5 = .ok (.ifCond .eq 12, 3) := by decide +kernel
theorem d44_8 : decode (cod 44) 8 = .ok (.aload_n 0, 1) := by decide +kernel
theorem d44_9 : decode (cod 44) 9 = .ok (.getfield 22, 3) := by decide +kernel
theorem d44_12 : decode (cod 44) 12 = .ok (.iload_n 1, 1) := by decide +kernel
theorem d44_13 : decode (cod 44) 13 = .ok (.iaload, 1) := by decide +kernel
theorem d44_14 : decode (cod 44) 14 = .ok (.goto 4, 3) := by decide +kernel
theorem d44_17 : decode (cod 44) 17 = .ok (.iconst 0, 1) := by decide +kernel
theorem d44_18 : decode (cod 44) 18 = .ok (.ireturn, 1) := by decide +kernel
theorem d45_0 : decode (cod 45) 0 = .ok (.iconst 0, 1) := by decide +kernel
theorem d45_1 : decode (cod 45) 1 = .ok (.istore_n 2, 1) := by decide +kernel
theorem d45_2 : decode (cod 45) 2 = .ok (.iconst 0, 1) := by decide +kernel
theorem d45_3 : decode (cod 45) 3 = .ok (.istore_n 3, 1) := by decide +kernel
theorem d45_4 : decode (cod 45) 4 = .ok (.iload_n 3, 1) := by decide +kernel
theorem d45_5 : decode (cod 45) 5 = .ok (.aload_n 0, 1) := by decide +kernel
theorem d45_6 : decode (cod 45) 6 = .ok (.getfield 9, 3) := by decide +kernel
theorem d45_9 : decode (cod 45) 9 = .ok (.if_icmp .ge 25, 3) := by decide +kernel
theorem d45_12 : decode (cod 45) 12 = .ok (.aload_n 0, 1) := by decide +kernel
theorem d45_13 : decode (cod 45) 13 = .ok (.getfield 15, 3) := by decide +kernel
theorem d45_16 : decode (cod 45) 16 = .ok (.iload_n 3, 1) := by decide +kernel
theorem d45_17 : decode (cod 45) 17 = .ok (.iaload, 1) := by decide +kernel
theorem d45_18 : decode (cod 45) 18 = .ok (.iload_n 1, 1) := by decide +kernel
theorem d45_19 : decode (cod 45) 19 = .ok (.if_icmp .ne 9, 3) := by decide +kernel
theorem d45_22 : decode (cod 45) 22 = .ok (.iload_n 2, 1) := by decide +kernel
theorem d45_23 : decode (cod 45) 23 = .ok (.iconst 1, 1) := by decide +kernel
theorem d45_24 : decode (cod 45) 24 = .ok (.iload_n 3, 1) := by decide +kernel
theorem d45_25 : decode (cod 45) 25 = .ok (.ishl, 1) := by decide +kernel
theorem d45_26 : decode (cod 45) 26 = .ok (.ior, 1) := by decide +kernel
theorem d45_27 : decode (cod 45) 27 = .ok (.istore_n 2, 1) := by decide +kernel
theorem d45_28 : decode (cod 45) 28 = .ok (.iinc 3 1, 3) := by decide +kernel
theorem d45_31 : decode (cod 45) 31 = .ok (.goto (-27), 3) := by decide +kernel
theorem d45_34 : decode (cod 45) 34 = .ok (.iload_n 2, 1) := by decide +kernel
theorem d45_35 : decode (cod 45) 35 = .ok (.ireturn, 1) := by decide +kernel
theorem d46_0 : decode (cod 46) 0 = .ok (.aload_n 0, 1) := by decide +kernel
theorem d46_1 : decode (cod 46) 1 = .ok (.iload_n 1, 1) := by decide +kernel
theorem d46_2 : decode (cod 46) 2 = .ok (.invokevirtual 40, 3) := by decide +kernel
theorem d46_5 : decode (cod 46) 5 = .ok (.ifCond .ne 5, 3) := by decide +kernel
theorem d46_8 : decode (cod 46) 8 = .ok (.lconst 0, 1) := by decide +kernel
theorem d46_9 : decode (cod 46) 9 = .ok (.lreturn, 1) := by decide +kernel
theorem d46_10 : decode (cod 46) 10 = .ok (.aload_n 0, 1) := by decide +kernel
theorem d46_11 : decode (cod 46) 11 = .ok (.iload_n 2, 1) := by decide +kernel
theorem d46_12 : decode (cod 46) 12 = .ok (.invokevirtual 40, 3) := by decide +kernel
theorem d46_15 : decode (cod 46) 15 = .ok (.ifCond .ne 20, 3) := by decide +kernel
theorem d46_18 : decode (cod 46) 18 = .ok (.aload_n 0, 1) := by decide +kernel
theorem d46_19 : decode (cod 46) 19 = .ok (.getfield 15, 3) := by decide +kernel
theorem d46_22 : decode (cod 46) 22 = .ok (.iload_n 1, 1) := by decide +kernel
theorem d46_23 : decode (cod 46) 23 = .ok (.iaload, 1) := by decide +kernel
theorem d46_24 : decode (cod 46) 24 = .ok (.iconst (-1), 1) := by decide +kernel
theorem d46_25 : decode (cod 46) 25 = .ok (.aload_n 0, 1) := by decide +kernel
theorem d46_26 : decode (cod 46) 26 = .ok (.getfield 19, 3) := by decide +kernel
theorem d46_29 : decode (cod 46) 29 = .ok (.iload_n 1, 1) := by decide +kernel
theorem d46_30 : decode (cod 46) 30 = .ok (.iaload, 1) := by decide +kernel
theorem d46_31 : decode (cod 46) 31 = .ok (.invokestatic 44, 3) := by decide +kernel
theorem d46_34 : decode (cod 46) 34 = .ok (.lreturn, 1) := by decide +kernel
theorem d46_35 : decode (cod 46) 35 = .ok (.aload_n 0, 1) := by decide +kernel
theorem d46_36 : decode (cod 46) 36 = .ok (.getfield 15, 3) := by decide +kernel
theorem d46_39 : decode (cod 46) 39 = .ok (.iload_n 1, 1) := by decide +kernel
theorem d46_40 : decode (cod 46) 40 = .ok (.iaload, 1) := by decide +kernel
theorem d46_41 : decode (cod 46) 41 = .ok (.aload_n 0, 1) := by decide +kernel
theorem d46_42 : decode (cod 46) 42 = .ok (.getfield 15, 3) := by decide +kernel
theorem d46_45 : decode (cod 46) 45 = .ok (.iload_n 2, 1) := by decide +kernel
theorem d46_46 : decode (cod 46) 46 = .ok (.iaload, 1) := by decide +kernel
theorem d46_47 : decode (cod 46) 47 = .ok (.if_icmp .ne 43, 3) := by decide +kernel
theorem d46_50 : decode (cod 46) 50 = .ok (.aload_n 0, 1) := by decide +kernel
theorem d46_51 : decode (cod 46) 51 = .ok (.getfield 15, 3) := by decide +kernel
theorem d46_54 : decode (cod 46) 54 = .ok (.iload_n 1, 1) := by decide +kernel
theorem d46_55 : decode (cod 46) 55 = .ok (.iaload, 1) := by decide +kernel
theorem d46_56 : decode (cod 46) 56 = .ok (.aload_n 0, 1) := by decide +kernel
theorem d46_57 : decode (cod 46) 57 = .ok (.getfield 19, 3) := by decide +kernel
theorem d46_60 : decode (cod 46) 60 = .ok (.iload_n 1, 1) := by decide +kernel
theorem d46_61 : decode (cod 46) 61 = .ok (.iaload, 1) := by decide +kernel
theorem d46_62 : decode (cod 46) 62 = .ok (.aload_n 0, 1) := by decide +kernel
theorem d46_63 : decode (cod 46) 63 = .ok (.getfield 19, 3) := by decide +kernel
theorem d46_66 : decode (cod 46) 66 = .ok (.iload_n 2, 1) := by decide +kernel
theorem d46_67 : decode (cod 46) 67 = .ok (.iaload, 1) := by decide +kernel
theorem d46_68 : decode (cod 46) 68 = .ok (.invokestatic 48, 3) := by decide +kernel
theorem d46_71 : decode (cod 46) 71 = .ok (.aload_n 0, 1) := by decide +kernel
theorem d46_72 : decode (cod 46) 72 = .ok (.getfield 19, 3) := by decide +kernel
theorem d46_75 : decode (cod 46) 75 = .ok (.iload_n 1, 1) := by decide +kernel
theorem d46_76 : decode (cod 46) 76 = .ok (.iaload, 1) := by decide +kernel
theorem d46_77 : decode (cod 46) 77 = .ok (.aload_n 0, 1) := by decide +kernel
theorem d46_78 : decode (cod 46) 78 = .ok (.getfield 19, 3) := by decide +kernel
theorem d46_81 : decode (cod 46) 81 = .ok (.iload_n 2, 1) := by decide +kernel
theorem d46_82 : decode (cod 46) 82 = .ok (.iaload, 1) := by decide +kernel
theorem d46_83 : decode (cod 46) 83 = .ok (.invokestatic 54, 3) := by decide +kernel
theorem d46_86 : decode (cod 46) 86 = .ok (.invokestatic 44, 3) := by decide +kernel
theorem d46_89 : decode (cod 46) 89 = .ok (.lreturn, 1) := by decide +kernel
theorem d46_90 : decode (cod 46) 90 = .ok (.aload_n 0, 1) := by decide +kernel
theorem d46_91 : decode (cod 46) 91 = .ok (.getfield 15, 3) := by decide +kernel
theorem d46_94 : decode (cod 46) 94 = .ok (.iload_n 1, 1) := by decide +kernel
theorem d46_95 : decode (cod 46) 95 = .ok (.iaload, 1) := by decide +kernel
theorem d46_96 : decode (cod 46) 96 = .ok (.iconst (-1), 1) := by decide +kernel
theorem d46_97 : decode (cod 46) 97 = .ok (.aload_n 0, 1) := by decide +kernel
theorem d46_98 : decode (cod 46) 98 = .ok (.getfield 19, 3) := by decide +kernel
theorem d46_101 : decode (cod 46) 101 = .ok (.iload_n 1, 1) := by decide +kernel
theorem d46_102 : decode (cod 46) 102 = .ok (.iaload, 1) := by decide +kernel
theorem d46_103 : decode (cod 46) 103 = .ok (.invokestatic 44, 3) := by decide +kernel
theorem d46_106 : decode (cod 46) 106 = .ok (.aload_n 0, 1) := by decide +kernel
theorem d46_107 : decode (cod 46) 107 = .ok (.getfield 15, 3) := by decide +kernel
theorem d46_110 : decode (cod 46) 110 = .ok (.iload_n 2, 1) := by decide +kernel
theorem d46_111 : decode (cod 46) 111 = .ok (.iaload, 1) := by decide +kernel
theorem d46_112 : decode (cod 46) 112 = .ok (.iconst (-1), 1) := by decide +kernel
theorem d46_113 : decode (cod 46) 113 = .ok (.aload_n 0, 1) := by decide +kernel
theorem d46_114 : decode (cod 46) 114 = .ok (.getfield 19, 3) := by decide +kernel
theorem d46_117 : decode (cod 46) 117 = .ok (.iload_n 2, 1) := by decide +kernel
theorem d46_118 : decode (cod 46) 118 = .ok (.iaload, 1) := by decide +kernel
theorem d46_119 : decode (cod 46) 119 = .ok (.invokestatic 44, 3) := by decide +kernel
theorem d46_122 : decode (cod 46) 122 = .ok (.lor, 1) := by decide +kernel
theorem d46_123 : decode (cod 46) 123 = .ok (.lreturn, 1) := by decide +kernel
theorem d47_0 : decode (cod 47) 0 = .ok (.iconst 0, 1) := by decide +kernel
theorem d47_1 : decode (cod 47) 1 = .ok (.istore_n 2, 1) := by decide +kernel
theorem d47_2 : decode (cod 47) 2 = .ok (.iconst 0, 1) := by decide +kernel
theorem d47_3 : decode (cod 47) 3 = .ok (.istore_n 3, 1) := by decide +kernel
theorem d47_4 : decode (cod 47) 4 = .ok (.iload_n 3, 1) := by decide +kernel
theorem d47_5 : decode (cod 47) 5 = .ok (.aload_n 0, 1) := by decide +kernel
theorem d47_6 : decode (cod 47) 6 = .ok (.getfield 9, 3) := by decide +kernel
theorem d47_9 : decode (cod 47) 9 = .ok (.if_icmp .ge 37, 3) := by decide +kernel
theorem d47_12 : decode (cod 47) 12 = .ok (.aload_n 0, 1) := by decide +kernel
theorem d47_13 : decode (cod 47) 13 = .ok (.getfield 15, 3) := by decide +kernel
theorem d47_16 : decode (cod 47) 16 = .ok (.iload_n 3, 1) := by decide +kernel
theorem d47_17 : decode (cod 47) 17 = .ok (.iaload, 1) := by decide +kernel
theorem d47_18 : decode (cod 47) 18 = .ok (.aload_n 0, 1) := by decide +kernel
theorem d47_19 : decode (cod 47) 19 = .ok (.iload_n 1, 1) := by decide +kernel
theorem d47_20 : decode (cod 47) 20 = .ok (.invokevirtual 57, 3) := by decide +kernel
theorem d47_23 : decode (cod 47) 23 = .ok (.if_icmp .ne 17, 3) := by decide +kernel
theorem d47_26 : decode (cod 47) 26 = .ok (.iload_n 2, 1) := by decide +kernel
theorem d47_27 : decode (cod 47) 27 = .ok (.aload_n 0, 1) := by decide +kernel
theorem d47_28 : decode (cod 47) 28 = .ok (.iload_n 1, 1) := by decide +kernel
theorem d47_29 : decode (cod 47) 29 = .ok (.iload_n 3, 1) := by decide +kernel
theorem d47_30 : decode (cod 47) 30 = .ok (.invokevirtual 61, 3) := by decide +kernel
theorem d47_33 : decode (cod 47) 33 = .ok (.invokestatic 65, 3) := by decide +kernel
theorem d47_36 : decode (cod 47) 36 = .ok (.invokestatic 54, 3) := by decide +kernel
theorem d47_39 : decode (cod 47) 39 = .ok (.istore_n 2, 1) := by decide +kernel
theorem d47_40 : decode (cod 47) 40 = .ok (.iinc 3 1, 3) := by decide +kernel
theorem d47_43 : decode (cod 47) 43 = .ok (.goto (-39), 3) := by decide +kernel
theorem d47_46 : decode (cod 47) 46 = .ok (.iload_n 2, 1) := by decide +kernel
theorem d47_47 : decode (cod 47) 47 = .ok (.ireturn, 1) := by decide +kernel
theorem d48_0 : decode (cod 48) 0 = .ok (.lconst 1, 1) := by decide +kernel
theorem d48_1 : decode (cod 48) 1 = .ok (.iload_n 2, 1) := by decide +kernel
theorem d48_2 : decode (cod 48) 2 = .ok (.iconst 1, 1) := by decide +kernel
theorem d48_3 : decode (cod 48) 3 = .ok (.iadd, 1) := by decide +kernel
theorem d48_4 : decode (cod 48) 4 = .ok (.lshl, 1) := by decide +kernel
theorem d48_5 : decode (cod 48) 5 = .ok (.lconst 1, 1) := by decide +kernel
theorem d48_6 : decode (cod 48) 6 = .ok (.iload_n 1, 1) := by decide +kernel
theorem d48_7 : decode (cod 48) 7 = .ok (.iconst 1, 1) := by decide +kernel
theorem d48_8 : decode (cod 48) 8 = .ok (.iadd, 1) := by decide +kernel
theorem d48_9 : decode (cod 48) 9 = .ok (.lshl, 1) := by decide +kernel
theorem d48_10 : decode (cod 48) 10 = .ok (.lsub, 1) := by decide +kernel
theorem d48_11 : decode (cod 48) 11 = .ok (.iload_n 0, 1) := by decide +kernel
theorem d48_12 : decode (cod 48) 12 = .ok (.bipush 10, 2) := by decide +kernel
theorem d48_14 : decode (cod 48) 14 = .ok (.imul, 1) := by decide +kernel
theorem d48_15 : decode (cod 48) 15 = .ok (.lshl, 1) := by decide +kernel
theorem d48_16 : decode (cod 48) 16 = .ok (.lreturn, 1) := by decide +kernel
theorem d49_0 : decode (cod 49) 0 = .ok (.aload_n 0, 1) := by decide +kernel
theorem d49_1 : decode (cod 49) 1 = .ok (.iload_n 1, 1) := by decide +kernel
theorem d49_2 : decode (cod 49) 2 = .ok (.invokevirtual 40, 3) := by decide +kernel
theorem d49_5 : decode (cod 49) 5 = .ok (.ifCond .eq 20, 3) := by decide +kernel
theorem d49_8 : decode (cod 49) 8 = .ok (.aload_n 0, 1) := by decide +kernel
theorem d49_9 : decode (cod 49) 9 = .ok (.iload_n 2, 1) := by decide +kernel
theorem d49_10 : decode (cod 49) 10 = .ok (.invokevirtual 40, 3) := by decide +kernel
theorem d49_13 : decode (cod 49) 13 = .ok (.ifCond .eq 12, 3) := by decide +kernel
theorem d49_16 : decode (cod 49) 16 = .ok (.aload_n 0, 1) := by decide +kernel
theorem d49_17 : decode (cod 49) 17 = .ok (.iload_n 1, 1) := by decide +kernel
theorem d49_18 : decode (cod 49) 18 = .ok (.iload_n 2, 1) := by decide +kernel
theorem d49_19 : decode (cod 49) 19 = .ok (.invokevirtual 71, 3) := by decide +kernel
theorem d49_22 : decode (cod 49) 22 = .ok (.ifCond .eq 5, 3) := by decide +kernel
theorem d49_25 : decode (cod 49) 25 = .ok (.iconst 0, 1) := by decide +kernel
theorem d49_26 : decode (cod 49) 26 = .ok (.ireturn, 1) := by decide +kernel
theorem d49_27 : decode (cod 49) 27 = .ok (.aload_n 0, 1) := by decide +kernel
theorem d49_28 : decode (cod 49) 28 = .ok (.getfield 31, 3) := by decide +kernel
theorem d49_31 : decode (cod 49) 31 = .ok (.iload_n 1, 1) := by decide +kernel
theorem d49_32 : decode (cod 49) 32 = .ok (.dup2, 1) := by decide +kernel
theorem d49_33 : decode (cod 49) 33 = .ok (.iaload, 1) := by decide +kernel
theorem d49_34 : decode (cod 49) 34 = .ok (.iconst 1, 1) := by decide +kernel
theorem d49_35 : decode (cod 49) 35 = .ok (.iload_n 2, 1) := by decide +kernel
theorem d49_36 : decode (cod 49) 36 = .ok (.ishl, 1) := by decide +kernel
theorem d49_37 : decode (cod 49) 37 = .ok (.ior, 1) := by decide +kernel
theorem d49_38 : decode (cod 49) 38 = .ok (.iastore, 1) := by decide +kernel
theorem d49_39 : decode (cod 49) 39 = .ok (.aload_n 0, 1) := by decide +kernel
theorem d49_40 : decode (cod 49) 40 = .ok (.getfield 31, 3) := by decide +kernel
theorem d49_43 : decode (cod 49) 43 = .ok (.iload_n 2, 1) := by decide +kernel
theorem d49_44 : decode (cod 49) 44 = .ok (.dup2, 1) := by decide +kernel
theorem d49_45 : decode (cod 49) 45 = .ok (.iaload, 1) := by decide +kernel
theorem d49_46 : decode (cod 49) 46 = .ok (.iconst 1, 1) := by decide +kernel
theorem d49_47 : decode (cod 49) 47 = .ok (.iload_n 1, 1) := by decide +kernel
theorem d49_48 : decode (cod 49) 48 = .ok (.ishl, 1) := by decide +kernel
theorem d49_49 : decode (cod 49) 49 = .ok (.ior, 1) := by decide +kernel
theorem d49_50 : decode (cod 49) 50 = .ok (.iastore, 1) := by decide +kernel
theorem d49_51 : decode (cod 49) 51 = .ok (.iconst 1, 1) := by decide +kernel
theorem d49_52 : decode (cod 49) 52 = .ok (.ireturn, 1) := by decide +kernel
theorem d50_0 : decode (cod 50) 0 = .ok (.aload_n 0, 1) := by decide +kernel
theorem d50_1 : decode (cod 50) 1 = .ok (.getfield 31, 3) := by decide +kernel
theorem d50_4 : decode (cod 50) 4 = .ok (.iload_n 1, 1) := by decide +kernel
theorem d50_5 : decode (cod 50) 5 = .ok (.iaload, 1) := by decide +kernel
theorem d50_6 : decode (cod 50) 6 = .ok (.iload_n 2, 1) := by decide +kernel
theorem d50_7 : decode (cod 50) 7 = .ok (.ishr, 1) := by decide +kernel
theorem d50_8 : decode (cod 50) 8 = .ok (.iconst 1, 1) := by decide +kernel
theorem d50_9 : decode (cod 50) 9 = .ok (.iand, 1) := by decide +kernel
theorem d50_10 : decode (cod 50) 10 = .ok (.ifCond .eq 7, 3) := by decide +kernel
theorem d50_13 : decode (cod 50) 13 = .ok (.iconst 1, 1) := by decide +kernel
theorem d50_14 : decode (cod 50) 14 = .ok (.goto 4, 3) := by decide +kernel
theorem d50_17 : decode (cod 50) 17 = .ok (.iconst 0, 1) := by decide +kernel
theorem d50_18 : decode (cod 50) 18 = .ok (.ireturn, 1) := by decide +kernel
theorem d51_0 : decode (cod 51) 0 = .ok (.aload_n 0, 1) := by decide +kernel
theorem d51_1 : decode (cod 51) 1 = .ok (.invokespecial 3, 3) := by decide +kernel
theorem d51_4 : decode (cod 51) 4 = .ok (.aload_n 0, 1) := by decide +kernel
theorem d51_5 : decode (cod 51) 5 = .ok (.iconst 0, 1) := by decide +kernel
theorem d51_6 : decode (cod 51) 6 = .ok (.putfield 9, 3) := by decide +kernel
theorem d51_9 : decode (cod 51) 9 = .ok (.aload_n 0, 1) := by decide +kernel
theorem d51_10 : decode (cod 51) 10 = .ok (.bipush 60, 2) := by decide +kernel
theorem d51_12 : decode (cod 51) 12 = .ok (.newarray .int, 2) := by decide +kernel
theorem d51_14 : decode (cod 51) 14 = .ok (.putfield 15, 3) := by decide +kernel
theorem d51_17 : decode (cod 51) 17 = .ok (.aload_n 0, 1) := by decide +kernel
theorem d51_18 : decode (cod 51) 18 = .ok (.bipush 60, 2) := by decide +kernel
theorem d51_20 : decode (cod 51) 20 = .ok (.newarray .int, 2) := by decide +kernel
theorem d51_22 : decode (cod 51) 22 = .ok (.putfield 19, 3) := by decide +kernel
theorem d51_25 : decode (cod 51) 25 = .ok (.aload_n 0, 1) := by decide +kernel
theorem d51_26 : decode (cod 51) 26 = .ok (.bipush 60, 2) := by decide +kernel
theorem d51_28 : decode (cod 51) 28 = .ok (.newarray .int, 2) := by decide +kernel
theorem d51_30 : decode (cod 51) 30 = .ok (.putfield 22, 3) := by decide +kernel
theorem d51_33 : decode (cod 51) 33 = .ok (.aload_n 0, 1) := by decide +kernel
theorem d51_34 : decode (cod 51) 34 = .ok (.bipush 60, 2) := by decide +kernel
theorem d51_36 : decode (cod 51) 36 = .ok (.newarray .int, 2) := by decide +kernel
theorem d51_38 : decode (cod 51) 38 = .ok (.putfield 25, 3) := by decide +kernel
theorem d51_41 : decode (cod 51) 41 = .ok (.return_, 1) := by decide +kernel
theorem d52_0 : decode (cod 52) 0 = .ok (.aload_n 0, 1) := by decide +kernel
theorem d52_1 : decode (cod 52) 1 = .ok (.aload_n 1, 1) := by decide +kernel
theorem d52_2 : decode (cod 52) 2 = .ok (.getfield 9, 3) := by decide +kernel
theorem d52_5 : decode (cod 52) 5 = .ok (.putfield 9, 3) := by decide +kernel
theorem d52_8 : decode (cod 52) 8 = .ok (.aload_n 1, 1) := by decide +kernel
theorem d52_9 : decode (cod 52) 9 = .ok (.getfield 15, 3) := by decide +kernel
theorem d52_12 : decode (cod 52) 12 = .ok (.iconst 0, 1) := by decide +kernel
theorem d52_13 : decode (cod 52) 13 = .ok (.aload_n 0, 1) := by decide +kernel
theorem d52_14 : decode (cod 52) 14 = .ok (.getfield 15, 3) := by decide +kernel
theorem d52_17 : decode (cod 52) 17 = .ok (.iconst 0, 1) := by decide +kernel
theorem d52_18 : decode (cod 52) 18 = .ok (.bipush 60, 2) := by decide +kernel
theorem d52_20 : decode (cod 52) 20 = .ok (.invokestatic 28, 3) := by decide +kernel
theorem d52_23 : decode (cod 52) 23 = .ok (.aload_n 1, 1) := by decide +kernel
theorem d52_24 : decode (cod 52) 24 = .ok (.getfield 19, 3) := by decide +kernel
theorem d52_27 : decode (cod 52) 27 = .ok (.iconst 0, 1) := by decide +kernel
theorem d52_28 : decode (cod 52) 28 = .ok (.aload_n 0, 1) := by decide +kernel
theorem d52_29 : decode (cod 52) 29 = .ok (.getfield 19, 3) := by decide +kernel
theorem d52_32 : decode (cod 52) 32 = .ok (.iconst 0, 1) := by decide +kernel
theorem d52_33 : decode (cod 52) 33 = .ok (.bipush 60, 2) := by decide +kernel
theorem d52_35 : decode (cod 52) 35 = .ok (.invokestatic 28, 3) := by decide +kernel
theorem d52_38 : decode (cod 52) 38 = .ok (.aload_n 1, 1) := by decide +kernel
theorem d52_39 : decode (cod 52) 39 = .ok (.getfield 22, 3) := by decide +kernel
theorem d52_42 : decode (cod 52) 42 = .ok (.iconst 0, 1) := by decide +kernel
theorem d52_43 : decode (cod 52) 43 = .ok (.aload_n 0, 1) := by decide +kernel
theorem d52_44 : decode (cod 52) 44 = .ok (.getfield 22, 3) := by decide +kernel
theorem d52_47 : decode (cod 52) 47 = .ok (.iconst 0, 1) := by decide +kernel
theorem d52_48 : decode (cod 52) 48 = .ok (.bipush 60, 2) := by decide +kernel
theorem d52_50 : decode (cod 52) 50 = .ok (.invokestatic 28, 3) := by decide +kernel
theorem d52_53 : decode (cod 52) 53 = .ok (.aload_n 1, 1) := by decide +kernel
theorem d52_54 : decode (cod 52) 54 = .ok (.getfield 25, 3) := by decide +kernel
theorem d52_57 : decode (cod 52) 57 = .ok (.iconst 0, 1) := by decide +kernel
theorem d52_58 : decode (cod 52) 58 = .ok (.aload_n 0, 1) := by decide +kernel
theorem d52_59 : decode (cod 52) 59 = .ok (.getfield 25, 3) := by decide +kernel
theorem d52_62 : decode (cod 52) 62 = .ok (.iconst 0, 1) := by decide +kernel
theorem d52_63 : decode (cod 52) 63 = .ok (.bipush 60, 2) := by decide +kernel
theorem d52_65 : decode (cod 52) 65 = .ok (.invokestatic 28, 3) := by decide +kernel
theorem d52_68 : decode (cod 52) 68 = .ok (.return_, 1) := by decide +kernel
theorem d53_0 : decode (cod 53) 0 = .ok (.aload_n 0, 1) := by decide +kernel
theorem d53_1 : decode (cod 53) 1 = .ok (.getfield 9, 3) := by decide +kernel
theorem d53_4 : decode (cod 53) 4 = .ok (.bipush 60, 2) := by decide +kernel
theorem d53_6 : decode (cod 53) 6 = .ok (.if_icmp .lt 4, 3) := by decide +kernel
theorem d53_9 : decode (cod 53) 9 = .ok (.return_, 1) := by decide +kernel
theorem d53_10 : decode (cod 53) 10 = .ok (.aload_n 0, 1) := by decide +kernel
theorem d53_11 : decode (cod 53) 11 = .ok (.getfield 15, 3) := by decide +kernel
theorem d53_14 : decode (cod 53) 14 = .ok (.aload_n 0, 1) := by decide +kernel
theorem d53_15 : decode (cod 53) 15 = .ok (.getfield 9, 3) := by decide +kernel
theorem d53_18 : decode (cod 53) 18 = .ok (.iload_n 1, 1) := by decide +kernel
theorem d53_19 : decode (cod 53) 19 = .ok (.iastore, 1) := by decide +kernel
theorem d53_20 : decode (cod 53) 20 = .ok (.aload_n 0, 1) := by decide +kernel
theorem d53_21 : decode (cod 53) 21 = .ok (.getfield 19, 3) := by decide +kernel
theorem d53_24 : decode (cod 53) 24 = .ok (.aload_n 0, 1) := by decide +kernel
theorem d53_25 : decode (cod 53) 25 = .ok (.getfield 9, 3) := by decide +kernel
theorem d53_28 : decode (cod 53) 28 = .ok (.iload_n 2, 1) := by decide +kernel
theorem d53_29 : decode (cod 53) 29 = .ok (.iastore, 1) := by decide +kernel
theorem d53_30 : decode (cod 53) 30 = .ok (.aload_n 0, 1) := by decide +kernel
theorem d53_31 : decode (cod 53) 31 = .ok (.getfield 22, 3) := by decide +kernel
theorem d53_34 : decode (cod 53) 34 = .ok (.aload_n 0, 1) := by decide +kernel
theorem d53_35 : decode (cod 53) 35 = .ok (.getfield 9, 3) := by decide +kernel
theorem d53_38 : decode (cod 53) 38 = .ok (.iload_n 3, 1) := by decide +kernel
theorem d53_39 : decode (cod 53) 39 = .ok (.iastore, 1) := by decide +kernel
theorem d53_40 : decode (cod 53) 40 = .ok (.aload_n 0, 1) := by decide +kernel
theorem d53_41 : decode (cod 53) 41 = .ok (.getfield 25, 3) := by decide +kernel
theorem d53_44 : decode (cod 53) 44 = .ok (.aload_n 0, 1) := by decide +kernel
theorem d53_45 : decode (cod 53) 45 = .ok (.getfield 9, 3) := by decide +kernel
theorem d53_48 : decode (cod 53) 48 = .ok (.iload 4, 2) := by decide +kernel
theorem d53_50 : decode (cod 53) 50 = .ok (.iastore, 1) := by decide +kernel
theorem d53_51 : decode (cod 53) 51 = .ok (.aload_n 0, 1) := by decide +kernel
theorem d53_52 : decode (cod 53) 52 = .ok (.dup, 1) := by decide +kernel
theorem d53_53 : decode (cod 53) 53 = .ok (.getfield 9, 3) := by decide +kernel
theorem d53_56 : decode (cod 53) 56 = .ok (.iconst 1, 1) := by decide +kernel
theorem d53_57 : decode (cod 53) 57 = .ok (.iadd, 1) := by decide +kernel
theorem d53_58 : decode (cod 53) 58 = .ok (.putfield 9, 3) := by decide +kernel
theorem d53_61 : decode (cod 53) 61 = .ok (.return_, 1) := by decide +kernel
theorem d54_0 : decode (cod 54) 0 = .ok (.iconst 0, 1) := by decide +kernel
theorem d54_1 : decode (cod 54) 1 = .ok (.istore_n 3, 1) := by decide +kernel
theorem d54_2 : decode (cod 54) 2 = .ok (.iconst 0, 1) := by decide +kernel
theorem d54_3 : decode (cod 54) 3 = .ok (.istore 4, 2) := by decide +kernel
theorem d54_5 : decode (cod 54) 5 = .ok (.iload 4, 2) := by decide +kernel
theorem d54_7 : decode (cod 54) 7 = .ok (.aload_n 0, 1) := by decide +kernel
theorem d54_8 : decode (cod 54) 8 = .ok (.getfield 9, 3) := by decide +kernel
theorem d54_11 : decode (cod 54) 11 = .ok (.if_icmp .ge 41, 3) := by decide +kernel
theorem d54_14 : decode (cod 54) 14 = .ok (.aload_n 0, 1) := by decide +kernel
theorem d54_15 : decode (cod 54) 15 = .ok (.getfield 15, 3) := by decide +kernel
theorem d54_18 : decode (cod 54) 18 = .ok (.iload 4, 2) := by decide +kernel
theorem d54_20 : decode (cod 54) 20 = .ok (.iaload, 1) := by decide +kernel
theorem d54_21 : decode (cod 54) 21 = .ok (.iload_n 1, 1) := by decide +kernel
theorem d54_22 : decode (cod 54) 22 = .ok (.if_icmp .ne 24, 3) := by decide +kernel
theorem d54_25 : decode (cod 54) 25 = .ok (.aload_n 0, 1) := by decide +kernel
theorem d54_26 : decode (cod 54) 26 = .ok (.getfield 19, 3) := by decide +kernel
theorem d54_29 : decode (cod 54) 29 = .ok (.iload 4, 2) := by decide +kernel
theorem d54_31 : decode (cod 54) 31 = .ok (.iaload, 1) := by decide +kernel
theorem d54_32 : decode (cod 54) 32 = .ok (.iload_n 2, 1) := by decide +kernel
theorem d54_33 : decode (cod 54) 33 = .ok (.if_icmp .ne 13, 3) := by decide +kernel
theorem d54_36 : decode (cod 54) 36 = .ok (.iload_n 3, 1) := by decide +kernel
theorem d54_37 : decode (cod 54) 37 = .ok (.aload_n 0, 1) := by decide +kernel
theorem d54_38 : decode (cod 54) 38 = .ok (.getfield 22, 3) := by decide +kernel
theorem d54_41 : decode (cod 54) 41 = .ok (.iload 4, 2) := by decide +kernel
theorem d54_43 : decode (cod 54) 43 = .ok (.iaload, 1) := by decide +kernel
theorem d54_44 : decode (cod 54) 44 = .ok (.iadd, 1) := by decide +kernel
theorem d54_45 : decode (cod 54) 45 = .ok (.istore_n 3, 1) := by decide +kernel
theorem d54_46 : decode (cod 54) 46 = .ok (.iinc 4 1, 3) := by decide +kernel
theorem d54_49 : decode (cod 54) 49 = .ok (.goto (-44), 3) := by decide +kernel
theorem d54_52 : decode (cod 54) 52 = .ok (.iload_n 3, 1) := by decide +kernel
theorem d54_53 : decode (cod 54) 53 = .ok (.ireturn, 1) := by decide +kernel
theorem d55_0 : decode (cod 55) 0 = .ok (.iconst 0, 1) := by decide +kernel
theorem d55_1 : decode (cod 55) 1 = .ok (.istore 4, 2) := by decide +kernel
theorem d55_3 : decode (cod 55) 3 = .ok (.iconst 0, 1) := by decide +kernel
theorem d55_4 : decode (cod 55) 4 = .ok (.istore 5, 2) := by decide +kernel
theorem d55_6 : decode (cod 55) 6 = .ok (.iload 5, 2) := by decide +kernel
theorem d55_8 : decode (cod 55) 8 = .ok (.aload_n 0, 1) := by decide +kernel
theorem d55_9 : decode (cod 55) 9 = .ok (.getfield 9, 3) := by decide +kernel
theorem d55_12 : decode (cod 55) 12 = .ok (.if_icmp .ge 76, 3) := by decide +kernel
theorem d55_15 : decode (cod 55) 15 = .ok (.aload_n 0, 1) := by decide +kernel
theorem d55_16 : decode (cod 55) 16 = .ok (.getfield 15, 3) := by decide +kernel
theorem d55_19 : decode (cod 55) 19 = .ok (.iload 5, 2) := by decide +kernel
theorem d55_21 : decode (cod 55) 21 = .ok (.iaload, 1) := by decide +kernel
theorem d55_22 : decode (cod 55) 22 = .ok (.iload_n 1, 1) := by decide +kernel
theorem d55_23 : decode (cod 55) 23 = .ok (.if_icmp .ne 59, 3) := by decide +kernel
theorem d55_26 : decode (cod 55) 26 = .ok (.aload_n 0, 1) := by decide +kernel
theorem d55_27 : decode (cod 55) 27 = .ok (.getfield 25, 3) := by decide +kernel
theorem d55_30 : decode (cod 55) 30 = .ok (.iload 5, 2) := by decide +kernel
theorem d55_32 : decode (cod 55) 32 = .ok (.iaload, 1) := by decide +kernel
theorem d55_33 : decode (cod 55) 33 = .ok (.iload_n 2, 1) := by decide +kernel
theorem d55_34 : decode (cod 55) 34 = .ok (.if_icmp .lt 48, 3) := by decide +kernel
theorem d55_37 : decode (cod 55) 37 = .ok (.aload_n 0, 1) := by decide +kernel
theorem d55_38 : decode (cod 55) 38 = .ok (.getfield 25, 3) := by decide +kernel
theorem d55_41 : decode (cod 55) 41 = .ok (.iload 5, 2) := by decide +kernel
theorem d55_43 : decode (cod 55) 43 = .ok (.iaload, 1) := by decide +kernel
theorem d55_44 : decode (cod 55) 44 = .ok (.iload_n 3, 1) := by decide +kernel
theorem d55_45 : decode (cod 55) 45 = .ok (.if_icmp .gt 37, 3) := by decide +kernel
theorem d55_48 : decode (cod 55) 48 = .ok (.iload 4, 2) := by decide +kernel
theorem d55_50 : decode (cod 55) 50 = .ok (.aload_n 0, 1) := by decide +kernel
theorem d55_51 : decode (cod 55) 51 = .ok (.getfield 19, 3) := by decide +kernel
theorem d55_54 : decode (cod 55) 54 = .ok (.iload 5, 2) := by decide +kernel
theorem d55_56 : decode (cod 55) 56 = .ok (.iaload, 1) := by decide +kernel
theorem d55_57 : decode (cod 55) 57 = .ok (.ifCond .ne 13, 3) := by decide +kernel
theorem d55_60 : decode (cod 55) 60 = .ok (.aload_n 0, 1) := by decide +kernel
theorem d55_61 : decode (cod 55) 61 = .ok (.getfield 22, 3) := by decide +kernel
theorem d55_64 : decode (cod 55) 64 = .ok (.iload 5, 2) := by decide +kernel
theorem d55_66 : decode (cod 55) 66 = .ok (.iaload, 1) := by decide +kernel
theorem d55_67 : decode (cod 55) 67 = .ok (.goto 12, 3) := by decide +kernel
theorem d55_70 : decode (cod 55) 70 = .ok (.iconst 3, 1) := by decide +kernel
theorem d55_71 : decode (cod 55) 71 = .ok (.aload_n 0, 1) := by decide +kernel
theorem d55_72 : decode (cod 55) 72 = .ok (.getfield 22, 3) := by decide +kernel
theorem d55_75 : decode (cod 55) 75 = .ok (.iload 5, 2) := by decide +kernel
theorem d55_77 : decode (cod 55) 77 = .ok (.iaload, 1) := by decide +kernel
theorem d55_78 : decode (cod 55) 78 = .ok (.imul, 1) := by decide +kernel
theorem d55_79 : decode (cod 55) 79 = .ok (.iadd, 1) := by decide +kernel
theorem d55_80 : decode (cod 55) 80 = .ok (.istore 4, 2) := by decide +kernel
theorem d55_82 : decode (cod 55) 82 = .ok (.iinc 5 1, 3) := by decide +kernel
theorem d55_85 : decode (cod 55) 85 = .ok (.goto (-79), 3) := by decide +kernel
theorem d55_88 : decode (cod 55) 88 = .ok (.iload 4, 2) := by decide +kernel
theorem d55_90 : decode (cod 55) 90 = .ok (.ireturn, 1) := by decide +kernel
theorem d56_0 : decode (cod 56) 0 = .ok (.aload_n 0, 1) := by decide +kernel
theorem d56_1 : decode (cod 56) 1 = .ok (.invokespecial 3, 3) := by decide +kernel
theorem d56_4 : decode (cod 56) 4 = .ok (.aload_n 0, 1) := by decide +kernel
theorem d56_5 : decode (cod 56) 5 = .ok (.iconst 0, 1) := by decide +kernel
theorem d56_6 : decode (cod 56) 6 = .ok (.putfield 9, 3) := by decide +kernel
theorem d56_9 : decode (cod 56) 9 = .ok (.aload_n 0, 1) := by decide +kernel
theorem d56_10 : decode (cod 56) 10 = .ok (.iconst 0, 1) := by decide +kernel
theorem d56_11 : decode (cod 56) 11 = .ok (.putfield 15, 3) := by decide +kernel
theorem d56_14 : decode (cod 56) 14 = .ok (.aload_n 0, 1) := by decide +kernel
theorem d56_15 : decode (cod 56) 15 = .ok (.bipush 10, 2) := by decide +kernel
theorem d56_17 : decode (cod 56) 17 = .ok (.newarray .int, 2) := by decide +kernel
theorem d56_19 : decode (cod 56) 19 = .ok (.putfield 18, 3) := by decide +kernel
theorem d56_22 : decode (cod 56) 22 = .ok (.aload_n 0, 1) := by decide +kernel
theorem d56_23 : decode (cod 56) 23 = .ok (.bipush 10, 2) := by decide +kernel
theorem d56_25 : decode (cod 56) 25 = .ok (.newarray .int, 2) := by decide +kernel
theorem d56_27 : decode (cod 56) 27 = .ok (.putfield 22, 3) := by decide +kernel
theorem d56_30 : decode (cod 56) 30 = .ok (.aload_n 0, 1) := by decide +kernel
theorem d56_31 : decode (cod 56) 31 = .ok (.bipush 10, 2) := by decide +kernel
theorem d56_33 : decode (cod 56) 33 = .ok (.newarray .int, 2) := by decide +kernel
theorem d56_35 : decode (cod 56) 35 = .ok (.putfield 25, 3) := by decide +kernel
theorem d56_38 : decode (cod 56) 38 = .ok (.aload_n 0, 1) := by decide +kernel
theorem d56_39 : decode (cod 56) 39 = .ok (.bipush 10, 2) := by decide +kernel
theorem d56_41 : decode (cod 56) 41 = .ok (.newarray .int, 2) := by decide +kernel
theorem d56_43 : decode (cod 56) 43 = .ok (.putfield 28, 3) := by decide +kernel
theorem d56_46 : decode (cod 56) 46 = .ok (.return_, 1) := by decide +kernel
theorem d57_0 : decode (cod 57) 0 = .ok (.aload_n 0, 1) := by decide +kernel
theorem d57_1 : decode (cod 57) 1 = .ok (.aload_n 1, 1) := by decide +kernel
theorem d57_2 : decode (cod 57) 2 = .ok (.getfield 9, 3) := by decide +kernel
theorem d57_5 : decode (cod 57) 5 = .ok (.putfield 9, 3) := by decide +kernel
theorem d57_8 : decode (cod 57) 8 = .ok (.aload_n 0, 1) := by decide +kernel
theorem d57_9 : decode (cod 57) 9 = .ok (.aload_n 1, 1) := by decide +kernel
theorem d57_10 : decode (cod 57) 10 = .ok (.getfield 15, 3) := by decide +kernel
theorem d57_13 : decode (cod 57) 13 = .ok (.putfield 15, 3) := by decide +kernel
theorem d57_16 : decode (cod 57) 16 = .ok (.aload_n 1, 1) := by decide +kernel
theorem d57_17 : decode (cod 57) 17 = .ok (.getfield 18, 3) := by decide +kernel
theorem d57_20 : decode (cod 57) 20 = .ok (.iconst 0, 1) := by decide +kernel
theorem d57_21 : decode (cod 57) 21 = .ok (.aload_n 0, 1) := by decide +kernel
theorem d57_22 : decode (cod 57) 22 = .ok (.getfield 18, 3) := by decide +kernel
theorem d57_25 : decode (cod 57) 25 = .ok (.iconst 0, 1) := by decide +kernel
theorem d57_26 : decode (cod 57) 26 = .ok (.bipush 10, 2) := by decide +kernel
theorem d57_28 : decode (cod 57) 28 = .ok (.invokestatic 31, 3) := by decide +kernel
theorem d57_31 : decode (cod 57) 31 = .ok (.aload_n 1, 1) := by decide +kernel
theorem d57_32 : decode (cod 57) 32 = .ok (.getfield 22, 3) := by decide +kernel
theorem d57_35 : decode (cod 57) 35 = .ok (.iconst 0, 1) := by decide +kernel
theorem d57_36 : decode (cod 57) 36 = .ok (.aload_n 0, 1) := by decide +kernel
theorem d57_37 : decode (cod 57) 37 = .ok (.getfield 22, 3) := by decide +kernel
theorem d57_40 : decode (cod 57) 40 = .ok (.iconst 0, 1) := by decide +kernel
theorem d57_41 : decode (cod 57) 41 = .ok (.bipush 10, 2) := by decide +kernel
theorem d57_43 : decode (cod 57) 43 = .ok (.invokestatic 31, 3) := by decide +kernel
theorem d57_46 : decode (cod 57) 46 = .ok (.aload_n 1, 1) := by decide +kernel
theorem d57_47 : decode (cod 57) 47 = .ok (.getfield 25, 3) := by decide +kernel
theorem d57_50 : decode (cod 57) 50 = .ok (.iconst 0, 1) := by decide +kernel
theorem d57_51 : decode (cod 57) 51 = .ok (.aload_n 0, 1) := by decide +kernel
theorem d57_52 : decode (cod 57) 52 = .ok (.getfield 25, 3) := by decide +kernel
theorem d57_55 : decode (cod 57) 55 = .ok (.iconst 0, 1) := by decide +kernel
theorem d57_56 : decode (cod 57) 56 = .ok (.bipush 10, 2) := by decide +kernel
theorem d57_58 : decode (cod 57) 58 = .ok (.invokestatic 31, 3) := by decide +kernel
theorem d57_61 : decode (cod 57) 61 = .ok (.aload_n 1, 1) := by decide +kernel
theorem d57_62 : decode (cod 57) 62 = .ok (.getfield 28, 3) := by decide +kernel
theorem d57_65 : decode (cod 57) 65 = .ok (.iconst 0, 1) := by decide +kernel
theorem d57_66 : decode (cod 57) 66 = .ok (.aload_n 0, 1) := by decide +kernel
theorem d57_67 : decode (cod 57) 67 = .ok (.getfield 28, 3) := by decide +kernel
theorem d57_70 : decode (cod 57) 70 = .ok (.iconst 0, 1) := by decide +kernel
theorem d57_71 : decode (cod 57) 71 = .ok (.bipush 10, 2) := by decide +kernel
theorem d57_73 : decode (cod 57) 73 = .ok (.invokestatic 31, 3) := by decide +kernel
theorem d57_76 : decode (cod 57) 76 = .ok (.return_, 1) := by decide +kernel
theorem d58_0 : decode (cod 58) 0 = .ok (.aload_n 0, 1) := by decide +kernel
theorem d58_1 : decode (cod 58) 1 = .ok (.getfield 9, 3) := by decide +kernel
theorem d58_4 : decode (cod 58) 4 = .ok (.bipush 10, 2) := by decide +kernel
theorem d58_6 : decode (cod 58) 6 = .ok (.if_icmp .lt 6, 3) := by decide +kernel
theorem d58_9 : decode (cod 58) 9 = .ok (.bipush (-4), 2) := by decide +kernel
theorem d58_11 : decode (cod 58) 11 = .ok (.ireturn, 1) := by decide +kernel
theorem d58_12 : decode (cod 58) 12 = .ok (.aload_n 0, 1) := by decide +kernel
theorem d58_13 : decode (cod 58) 13 = .ok (.getfield 18, 3) := by decide +kernel
theorem d58_16 : decode (cod 58) 16 = .ok (.aload_n 0, 1) := by decide +kernel
theorem d58_17 : decode (cod 58) 17 = .ok (.getfield 9, 3) := by decide +kernel
theorem d58_20 : decode (cod 58) 20 = .ok (.iload_n 1, 1) := by decide +kernel
theorem d58_21 : decode (cod 58) 21 = .ok (.iastore, 1) := by decide +kernel
theorem d58_22 : decode (cod 58) 22 = .ok (.aload_n 0, 1) := by decide +kernel
theorem d58_23 : decode (cod 58) 23 = .ok (.getfield 22, 3) := by decide +kernel
theorem d58_26 : decode (cod 58) 26 = .ok (.aload_n 0, 1) := by decide +kernel
theorem d58_27 : decode (cod 58) 27 = .ok (.getfield 9, 3) := by decide +kernel
theorem d58_30 : decode (cod 58) 30 = .ok (.iload_n 2, 1) := by decide +kernel
theorem d58_31 : decode (cod 58) 31 = .ok (.iastore, 1) := by decide +kernel
theorem d58_32 : decode (cod 58) 32 = .ok (.aload_n 0, 1) := by decide +kernel
theorem d58_33 : decode (cod 58) 33 = .ok (.getfield 25, 3) := by decide +kernel
theorem d58_36 : decode (cod 58) 36 = .ok (.aload_n 0, 1) := by decide +kernel
theorem d58_37 : decode (cod 58) 37 = .ok (.getfield 9, 3) := by decide +kernel
theorem d58_40 : decode (cod 58) 40 = .ok (.iload_n 3, 1) := by decide +kernel
theorem d58_41 : decode (cod 58) 41 = .ok (.iastore, 1) := by decide +kernel
theorem d58_42 : decode (cod 58) 42 = .ok (.aload_n 0, 1) := by decide +kernel
theorem d58_43 : decode (cod 58) 43 = .ok (.getfield 28, 3) := by decide +kernel
theorem d58_46 : decode (cod 58) 46 = .ok (.aload_n 0, 1) := by decide +kernel
theorem d58_47 : decode (cod 58) 47 = .ok (.getfield 9, 3) := by decide +kernel
theorem d58_50 : decode (cod 58) 50 = .ok (.iload 4, 2) := by decide +kernel
theorem d58_52 : decode (cod 58) 52 = .ok (.iastore, 1) := by decide +kernel
theorem d58_53 : decode (cod 58) 53 = .ok (.aload_n 0, 1) := by decide +kernel
theorem d58_54 : decode (cod 58) 54 = .ok (.dup, 1) := by decide +kernel
theorem d58_55 : decode (cod 58) 55 = .ok (.getfield 9, 3) := by decide +kernel
theorem d58_58 : decode (cod 58) 58 = .ok (.dup_x1, 1) := by decide +kernel
theorem d58_59 : decode (cod 58) 59 = .ok (.iconst 1, 1) := by decide +kernel
theorem d58_60 : decode (cod 58) 60 = .ok (.iadd, 1) := by decide +kernel
theorem d58_61 : decode (cod 58) 61 = .ok (.putfield 9, 3) := by decide +kernel
theorem d58_64 : decode (cod 58) 64 = .ok (.ireturn, 1) := by decide +kernel
theorem d59_0 : decode (cod 59) 0 = .ok (.aload_n 0, 1) := by decide +kernel
theorem d59_1 : decode (cod 59) 1 = .ok (.getfield 15, 3) := by decide +kernel
theorem d59_4 : decode (cod 59) 4 = .ok (.iload_n 1, 1) := by decide +kernel
theorem d59_5 : decode (cod 59) 5 = .ok (.ishr, 1) := by decide +kernel
theorem d59_6 : decode (cod 59) 6 = .ok (.iconst 1, 1) := by decide +kernel
theorem d59_7 : decode (cod 59) 7 = .ok (.iand, 1) := by decide +kernel
theorem d59_8 : decode (cod 59) 8 = .ok (.ifCond .eq 7, 3) := by decide +kernel
theorem d59_11 : decode (cod 59) 11 = .ok (.iconst 1, 1) := by decide +kernel
theorem d59_12 : decode (cod 59) 12 = .ok (.goto 4, 3) := by decide +kernel
theorem d59_15 : decode (cod 59) 15 = .ok (.iconst 0, 1) := by decide +kernel
theorem d59_16 : decode (cod 59) 16 = .ok (.istore_n 2, 1) := by decide +kernel
theorem d59_17 : decode (cod 59) 17 = .ok (.aload_n 0, 1) := by decide +kernel
theorem d59_18 : decode (cod 59) 18 = .ok (.dup, 1) := by decide +kernel
theorem d59_19 : decode (cod 59) 19 = .ok (.getfield 15, 3) := by decide +kernel
theorem d59_22 : decode (cod 59) 22 = .ok (.iconst 1, 1) := by decide +kernel
theorem d59_23 : decode (cod 59) 23 = .ok (.iload_n 1, 1) := by decide +kernel
theorem d59_24 : decode (cod 59) 24 = .ok (.ishl, 1) := by decide +kernel
theorem d59_25 : decode (cod 59) 25 = .ok (.ior, 1) := by decide +kernel
theorem d59_26 : decode (cod 59) 26 = .ok (.putfield 15, 3) := by decide +kernel
theorem d59_29 : decode (cod 59) 29 = .ok (.iload_n 2, 1) := by decide +kernel
theorem d59_30 : decode (cod 59) 30 = .ok (.ifCond .ne 7, 3) := by decide +kernel
theorem d59_33 : decode (cod 59) 33 = .ok (.iconst 1, 1) := by decide +kernel
theorem d59_34 : decode (cod 59) 34 = .ok (.goto 4, 3) := by decide +kernel
theorem d59_37 : decode (cod 59) 37 = .ok (.iconst 0, 1) := by decide +kernel
theorem d59_38 : decode (cod 59) 38 = .ok (.ireturn, 1) := by decide +kernel
theorem d60_0 : decode (cod 60) 0 = .ok (.iconst 0, 1) := by decide +kernel
theorem d60_1 : decode (cod 60) 1 = .ok (.istore_n 1, 1) := by decide +kernel
theorem d60_2 : decode (cod 60) 2 = .ok (.iconst 0, 1) := by decide +kernel
theorem d60_3 : decode (cod 60) 3 = .ok (.istore_n 2, 1) := by decide +kernel
theorem d60_4 : decode (cod 60) 4 = .ok (.iload_n 2, 1) := by decide +kernel
theorem d60_5 : decode (cod 60) 5 = .ok (.aload_n 0, 1) := by decide +kernel
theorem d60_6 : decode (cod 60) 6 = .ok (.getfield 9, 3) := by decide +kernel
theorem d60_9 : decode (cod 60) 9 = .ok (.if_icmp .ge 104, 3) := by decide +kernel
theorem d60_12 : decode (cod 60) 12 = .ok (.iconst 2, 1) := by decide +kernel
theorem d60_13 : decode (cod 60) 13 = .ok (.aload_n 0, 1) := by decide +kernel
theorem d60_14 : decode (cod 60) 14 = .ok (.getfield 18, 3) := by decide +kernel
theorem d60_17 : decode (cod 60) 17 = .ok (.iload_n 2, 1) := by decide +kernel
theorem d60_18 : decode (cod 60) 18 = .ok (.iaload, 1) := by decide +kernel
theorem d60_19 : decode (cod 60) 19 = .ok (.imul, 1) := by decide +kernel
theorem d60_20 : decode (cod 60) 20 = .ok (.aload_n 0, 1) := by decide +kernel
theorem d60_21 : decode (cod 60) 21 = .ok (.getfield 28, 3) := by decide +kernel
theorem d60_24 : decode (cod 60) 24 = .ok (.iload_n 2, 1) := by decide +kernel
theorem d60_25 : decode (cod 60) 25 = .ok (.iaload, 1) := by decide +kernel
theorem d60_26 : decode (cod 60) 26 = .ok (.if_icmp .lt 24, 3) := by decide +kernel
theorem d60_29 : decode (cod 60) 29 = .ok (.iconst 2, 1) := by decide +kernel
theorem d60_30 : decode (cod 60) 30 = .ok (.aload_n 0, 1) := by decide +kernel
theorem d60_31 : decode (cod 60) 31 = .ok (.getfield 22, 3) := by decide +kernel
theorem d60_34 : decode (cod 60) 34 = .ok (.iload_n 2, 1) := by decide +kernel
theorem d60_35 : decode (cod 60) 35 = .ok (.iaload, 1) := by decide +kernel
theorem d60_36 : decode (cod 60) 36 = .ok (.imul, 1) := by decide +kernel
theorem d60_37 : decode (cod 60) 37 = .ok (.aload_n 0, 1) := by decide +kernel
theorem d60_38 : decode (cod 60) 38 = .ok (.getfield 18, 3) := by decide +kernel
theorem d60_41 : decode (cod 60) 41 = .ok (.iload_n 2, 1) := by decide +kernel
theorem d60_42 : decode (cod 60) 42 = .ok (.iaload, 1) := by decide +kernel
theorem d60_43 : decode (cod 60) 43 = .ok (.if_icmp .le 7, 3) := by decide +kernel
theorem d60_46 : decode (cod 60) 46 = .ok (.iconst 1, 1) := by decide +kernel
theorem d60_47 : decode (cod 60) 47 = .ok (.goto 4, 3) := by decide +kernel
theorem d60_50 : decode (cod 60) 50 = .ok (.iconst 0, 1) := by decide +kernel
theorem d60_51 : decode (cod 60) 51 = .ok (.istore_n 3, 1) := by decide +kernel
theorem d60_52 : decode (cod 60) 52 = .ok (.aload_n 0, 1) := by decide +kernel
theorem d60_53 : decode (cod 60) 53 = .ok (.getfield 25, 3) := by decide +kernel
theorem d60_56 : decode (cod 60) 56 = .ok (.iload_n 2, 1) := by decide +kernel
theorem d60_57 : decode (cod 60) 57 = .ok (.iaload, 1) := by decide +kernel
theorem d60_58 : decode (cod 60) 58 = .ok (.ifCond .lt 16, 3) := by decide +kernel
theorem d60_61 : decode (cod 60) 61 = .ok (.iload_n 1, 1) := by decide +kernel
theorem d60_62 : decode (cod 60) 62 = .ok (.aload_n 0, 1) := by decide +kernel
theorem d60_63 : decode (cod 60) 63 = .ok (.getfield 25, 3) := by decide +kernel
theorem d60_66 : decode (cod 60) 66 = .ok (.iload_n 2, 1) := by decide +kernel
theorem d60_67 : decode (cod 60) 67 = .ok (.iaload, 1) := by decide +kernel
theorem d60_68 : decode (cod 60) 68 = .ok (.ishr, 1) := by decide +kernel
theorem d60_69 : decode (cod 60) 69 = .ok (.iconst 1, 1) := by decide +kernel
theorem d60_70 : decode (cod 60) 70 = .ok (.iand, 1) := by decide +kernel
theorem d60_71 : decode (cod 60) 71 = .ok (.ifCond .eq 7, 3) := by decide +kernel
theorem d60_74 : decode (cod 60) 74 = .ok (.iconst 1, 1) := by decide +kernel
theorem d60_75 : decode (cod 60) 75 = .ok (.goto 4, 3) := by decide +kernel
theorem d60_78 : decode (cod 60) 78 = .ok (.iconst 0, 1) := by decide +kernel
theorem d60_79 : decode (cod 60) 79 = .ok (.istore 4, 2) := by decide +kernel
theorem d60_81 : decode (cod 60) 81 = .ok (.iload_n 3, 1) := by decide +kernel
theorem d60_82 : decode (cod 60) 82 = .ok (.ifCond .eq 25, 3) := by decide +kernel
theorem d60_85 : decode (cod 60) 85 = .ok (.iload 4, 2) := by decide +kernel
theorem d60_87 : decode (cod 60) 87 = .ok (.ifCond .eq 20, 3) := by decide +kernel
theorem d60_90 : decode (cod 60) 90 = .ok (.aload_n 0, 1) := by decide +kernel
theorem d60_91 : decode (cod 60) 91 = .ok (.getfield 15, 3) := by decide +kernel
theorem d60_94 : decode (cod 60) 94 = .ok (.iload_n 2, 1) := by decide +kernel
theorem d60_95 : decode (cod 60) 95 = .ok (.ishr, 1) := by decide +kernel
theorem d60_96 : decode (cod 60) 96 = .ok (.iconst 1, 1) := by decide +kernel
theorem d60_97 : decode (cod 60) 97 = .ok (.iand, 1) := by decide +kernel
theorem d60_98 : decode (cod 60) 98 = .ok (.ifCond .ne 9, 3) := by decide +kernel
theorem d60_101 : decode (cod 60) 101 = .ok (.iload_n 1, 1) := by decide +kernel
theorem d60_102 : decode (cod 60) 102 = .ok (.iconst 1, 1) := by decide +kernel
theorem d60_103 : decode (cod 60) 103 = .ok (.iload_n 2, 1) := by decide +kernel
theorem d60_104 : decode (cod 60) 104 = .ok (.ishl, 1) := by decide +kernel
theorem d60_105 : decode (cod 60) 105 = .ok (.ior, 1) := by decide +kernel
theorem d60_106 : decode (cod 60) 106 = .ok (.istore_n 1, 1) := by decide +kernel
theorem d60_107 : decode (cod 60) 107 = .ok (.iinc 2 1, 3) := by decide +kernel
theorem d60_110 : decode (cod 60) 110 = .ok (.goto (-106), 3) := by decide +kernel
theorem d60_113 : decode (cod 60) 113 = .ok (.iload_n 1, 1) := by decide +kernel
theorem d60_114 : decode (cod 60) 114 = .ok (.ireturn, 1) := by decide +kernel
theorem d61_0 : decode (cod 61) 0 = .ok (.aload_n 0, 1) := by decide +kernel
theorem d61_1 : decode (cod 61) 1 = .ok (.invokespecial 3, 3) := by decide +kernel
theorem d61_4 : decode (cod 61) 4 = .ok (.aload_n 0, 1) := by decide +kernel
theorem d61_5 : decode (cod 61) 5 = .ok (.iconst 0, 1) := by decide +kernel
theorem d61_6 : decode (cod 61) 6 = .ok (.putfield 9, 3) := by decide +kernel
theorem d61_9 : decode (cod 61) 9 = .ok (.aload_n 0, 1) := by decide +kernel
theorem d61_10 : decode (cod 61) 10 = .ok (.new 15, 3) := by decide +kernel
theorem d61_13 : decode (cod 61) 13 = .ok (.dup, 1) := by decide +kernel
theorem d61_14 : decode (cod 61) 14 = .ok (.invokespecial 17, 3) := by decide +kernel
theorem d61_17 : decode (cod 61) 17 = .ok (.putfield 18, 3) := by decide +kernel
theorem d61_20 : decode (cod 61) 20 = .ok (.aload_n 0, 1) := by decide +kernel
theorem d61_21 : decode (cod 61) 21 = .ok (.bipush 88, 2) := by decide +kernel
theorem d61_23 : decode (cod 61) 23 = .ok (.newarray .int, 2) := by decide +kernel
theorem d61_25 : decode (cod 61) 25 = .ok (.putfield 22, 3) := by decide +kernel
theorem d61_28 : decode (cod 61) 28 = .ok (.aload_n 0, 1) := by decide +kernel
theorem d61_29 : decode (cod 61) 29 = .ok (.bipush 11, 2) := by decide +kernel
theorem d61_31 : decode (cod 61) 31 = .ok (.newarray .int, 2) := by decide +kernel
theorem d61_33 : decode (cod 61) 33 = .ok (.putfield 26, 3) := by decide +kernel
theorem d61_36 : decode (cod 61) 36 = .ok (.aload_n 0, 1) := by decide +kernel
theorem d61_37 : decode (cod 61) 37 = .ok (.bipush 11, 2) := by decide +kernel
theorem d61_39 : decode (cod 61) 39 = .ok (.newarray .int, 2) := by decide +kernel
theorem d61_41 : decode (cod 61) 41 = .ok (.putfield 29, 3) := by decide +kernel
theorem d61_44 : decode (cod 61) 44 = .ok (.aload_n 0, 1) := by decide +kernel
theorem d61_45 : decode (cod 61) 45 = .ok (.bipush 88, 2) := by decide +kernel
theorem d61_47 : decode (cod 61) 47 = .ok (.newarray .int, 2) := by decide +kernel
theorem d61_49 : decode (cod 61) 49 = .ok (.putfield 32, 3) := by decide +kernel
theorem d61_52 : decode (cod 61) 52 = .ok (.aload_n 0, 1) := by decide +kernel
theorem d61_53 : decode (cod 61) 53 = .ok (.bipush 88, 2) := by decide +kernel
theorem d61_55 : decode (cod 61) 55 = .ok (.newarray .int, 2) := by decide +kernel
theorem d61_57 : decode (cod 61) 57 = .ok (.putfield 35, 3) := by decide +kernel
theorem d61_60 : decode (cod 61) 60 = .ok (.aload_n 0, 1) := by decide +kernel
theorem d61_61 : decode (cod 61) 61 = .ok (.bipush 88, 2) := by decide +kernel
theorem d61_63 : decode (cod 61) 63 = .ok (.newarray .int, 2) := by decide +kernel
theorem d61_65 : decode (cod 61) 65 = .ok (.putfield 38, 3) := by decide +kernel
theorem d61_68 : decode (cod 61) 68 = .ok (.aload_n 0, 1) := by decide +kernel
theorem d61_69 : decode (cod 61) 69 = .ok (.bipush 6, 2) := by decide +kernel
theorem d61_71 : decode (cod 61) 71 = .ok (.newarray .int, 2) := by decide +kernel
theorem d61_73 : decode (cod 61) 73 = .ok (.putfield 41, 3) := by decide +kernel
theorem d61_76 : decode (cod 61) 76 = .ok (.return_, 1) := by decide +kernel
theorem d62_0 : decode (cod 62) 0 = .ok (.aload_n 0, 1) := by decide +kernel
theorem d62_1 : decode (cod 62) 1 = .ok (.aload_n 1, 1) := by decide +kernel
theorem d62_2 : decode (cod 62) 2 = .ok (.getfield 9, 3) := by decide +kernel
theorem d62_5 : decode (cod 62) 5 = .ok (.putfield 9, 3) := by decide +kernel
theorem d62_8 : decode (cod 62) 8 = .ok (.aload_n 0, 1) := by decide +kernel
theorem d62_9 : decode (cod 62) 9 = .ok (.getfield 18, 3) := by decide +kernel
theorem d62_12 : decode (cod 62) 12 = .ok (.aload_n 1, 1) := by decide +kernel
theorem d62_13 : decode (cod 62) 13 = .ok (.getfield 18, 3) := by decide +kernel
theorem d62_16 : decode (cod 62) 16 = .ok (.invokevirtual 44, 3) := by decide +kernel
theorem d62_19 : decode (cod 62) 19 = .ok (.aload_n 1, 1) := by decide +kernel
theorem d62_20 : decode (cod 62) 20 = .ok (.getfield 22, 3) := by decide +kernel
theorem d62_23 : decode (cod 62) 23 = .ok (.iconst 0, 1) := by decide +kernel
theorem d62_24 : decode (cod 62) 24 = .ok (.aload_n 0, 1) := by decide +kernel
theorem d62_25 : decode (cod 62) 25 = .ok (.getfield 22, 3) := by decide +kernel
theorem d62_28 : decode (cod 62) 28 = .ok (.iconst 0, 1) := by decide +kernel
theorem d62_29 : decode (cod 62) 29 = .ok (.bipush 88, 2) := by decide +kernel
theorem d62_31 : decode (cod 62) 31 = .ok (.invokestatic 48, 3) := by decide +kernel
theorem d62_34 : decode (cod 62) 34 = .ok (.aload_n 1, 1) := by decide +kernel
theorem d62_35 : decode (cod 62) 35 = .ok (.getfield 26, 3) := by decide +kernel
theorem d62_38 : decode (cod 62) 38 = .ok (.iconst 0, 1) := by decide +kernel
theorem d62_39 : decode (cod 62) 39 = .ok (.aload_n 0, 1) := by decide +kernel
theorem d62_40 : decode (cod 62) 40 = .ok (.getfield 26, 3) := by decide +kernel
theorem d62_43 : decode (cod 62) 43 = .ok (.iconst 0, 1) := by decide +kernel
theorem d62_44 : decode (cod 62) 44 = .ok (.bipush 11, 2) := by decide +kernel
theorem d62_46 : decode (cod 62) 46 = .ok (.invokestatic 48, 3) := by decide +kernel
theorem d62_49 : decode (cod 62) 49 = .ok (.aload_n 1, 1) := by decide +kernel
theorem d62_50 : decode (cod 62) 50 = .ok (.getfield 29, 3) := by decide +kernel
theorem d62_53 : decode (cod 62) 53 = .ok (.iconst 0, 1) := by decide +kernel
theorem d62_54 : decode (cod 62) 54 = .ok (.aload_n 0, 1) := by decide +kernel
theorem d62_55 : decode (cod 62) 55 = .ok (.getfield 29, 3) := by decide +kernel
theorem d62_58 : decode (cod 62) 58 = .ok (.iconst 0, 1) := by decide +kernel
theorem d62_59 : decode (cod 62) 59 = .ok (.bipush 11, 2) := by decide +kernel
theorem d62_61 : decode (cod 62) 61 = .ok (.invokestatic 48, 3) := by decide +kernel
theorem d62_64 : decode (cod 62) 64 = .ok (.aload_n 1, 1) := by decide +kernel
theorem d62_65 : decode (cod 62) 65 = .ok (.getfield 32, 3) := by decide +kernel
theorem d62_68 : decode (cod 62) 68 = .ok (.iconst 0, 1) := by decide +kernel
theorem d62_69 : decode (cod 62) 69 = .ok (.aload_n 0, 1) := by decide +kernel
theorem d62_70 : decode (cod 62) 70 = .ok (.getfield 32, 3) := by decide +kernel
theorem d62_73 : decode (cod 62) 73 = .ok (.iconst 0, 1) := by decide +kernel
theorem d62_74 : decode (cod 62) 74 = .ok (.bipush 88, 2) := by decide +kernel
theorem d62_76 : decode (cod 62) 76 = .ok (.invokestatic 48, 3) := by decide +kernel
theorem d62_79 : decode (cod 62) 79 = .ok (.aload_n 1, 1) := by decide +kernel
theorem d62_80 : decode (cod 62) 80 = .ok (.getfield 35, 3) := by decide +kernel
theorem d62_83 : decode (cod 62) 83 = .ok (.iconst 0, 1) := by decide +kernel
theorem d62_84 : decode (cod 62) 84 = .ok (.aload_n 0, 1) := by decide +kernel
theorem d62_85 : decode (cod 62) 85 = .ok (.getfield 35, 3) := by decide +kernel
theorem d62_88 : decode (cod 62) 88 = .ok (.iconst 0, 1) := by decide +kernel
theorem d62_89 : decode (cod 62) 89 = .ok (.bipush 88, 2) := by decide +kernel
theorem d62_91 : decode (cod 62) 91 = .ok (.invokestatic 48, 3) := by decide +kernel
theorem d62_94 : decode (cod 62) 94 = .ok (.aload_n 1, 1) := by decide +kernel
theorem d62_95 : decode (cod 62) 95 = .ok (.getfield 38, 3) := by decide +kernel
theorem d62_98 : decode (cod 62) 98 = .ok (.iconst 0, 1) := by decide +kernel
theorem d62_99 : decode (cod 62) 99 = .ok (.aload_n 0, 1) := by decide +kernel
theorem d62_100 : decode (cod 62) 100 = .ok (.getfield 38, 3) := by decide +kernel
theorem d62_103 : decode (cod 62) 103 = .ok (.iconst 0, 1) := by decide +kernel
theorem d62_104 : decode (cod 62) 104 = .ok (.bipush 88, 2) := by decide +kernel
theorem d62_106 : decode (cod 62) 106 = .ok (.invokestatic 48, 3) := by decide +kernel
theorem d62_109 : decode (cod 62) 109 = .ok (.return_, 1) := by decide +kernel
theorem d63_0 : decode (cod 63) 0 = .ok (.iload_n 0, 1) := by decide +kernel
theorem d63_1 : decode (cod 63) 1 = .ok (.ifCond .eq 8, 3) := by decide +kernel
theorem d63_4 : decode (cod 63) 4 = .ok (.iload_n 0, 1) := by decide +kernel
theorem d63_5 : decode (cod 63) 5 = .ok (.iconst 5, 1) := by decide +kernel
theorem d63_6 : decode (cod 63) 6 = .ok (.if_icmp .ne 7, 3) := by decide +kernel
theorem d63_9 : decode (cod 63) 9 = .ok (.iconst 1, 1) := by decide +kernel
theorem d63_10 : decode (cod 63) 10 = .ok (.goto 4, 3) := by decide +kernel
theorem d63_13 : decode (cod 63) 13 = .ok (.iconst 0, 1) := by decide +kernel
theorem d63_14 : decode (cod 63) 14 = .ok (.ireturn, 1) := by decide +kernel
theorem d64_0 : decode (cod 64) 0 = .ok (.iload_n 0, 1) := by decide +kernel
theorem d64_1 : decode (cod 64) 1 = .ok (.ifCond .lt 17, 3) := by decide +kernel
theorem d64_4 : decode (cod 64) 4 = .ok (.iload_n 0, 1) := by decide +kernel
theorem d64_5 : decode (cod 64) 5 = .ok (.bipush 7, 2) := by decide +kernel
theorem d64_7 : decode (cod 64) 7 = .ok (.if_icmp .ge 11, 3) := by decide +kernel
theorem d64_10 : decode (cod 64) 10 = .ok (.getstatic 54, 3) := by decide +kernel
theorem d64_13 : decode (cod 64) 13 = .ok (.iload_n 0, 1) := by decide +kernel
theorem d64_14 : decode (cod 64) 14 = .ok (.iaload, 1) := by decide +kernel
theorem d64_15 : decode (cod 64) 15 = .ok (.goto 4, 3) := by decide +kernel
theorem d64_18 : decode (cod 64) 18 = .ok (.iconst 0, 1) := by decide +kernel
theorem d64_19 : decode (cod 64) 19 = .ok (.ireturn, 1) := by decide +kernel
theorem d65_0 : decode (cod 65) 0 = .ok (.aload_n 0, 1) := by decide +kernel
theorem d65_1 : decode (cod 65) 1 = .ok (.getfield 9, 3) := by decide +kernel
theorem d65_4 : decode (cod 65) 4 = .ok (.bipush 11, 2) := by decide +kernel
theorem d65_6 : decode (cod 65) 6 = .ok (.if_icmp .lt 5, 3) := by decide +kernel
theorem d65_9 : decode (cod 65) 9 = .ok (.iconst 0, 1) := by decide +kernel
theorem d65_10 : decode (cod 65) 10 = .ok (.ireturn, 1) := by decide +kernel
theorem d65_11 : decode (cod 65) 11 = .ok (.aload_n 0, 1) := by decide +kernel
theorem d65_12 : decode (cod 65) 12 = .ok (.getfield 29, 3) := by decide +kernel
theorem d65_15 : decode (cod 65) 15 = .ok (.aload_n 0, 1) := by decide +kernel
theorem d65_16 : decode (cod 65) 16 = .ok (.getfield 9, 3) := by decide +kernel
theorem d65_19 : decode (cod 65) 19 = .ok (.iconst 0, 1) := by decide +kernel
theorem d65_20 : decode (cod 65) 20 = .ok (.iastore, 1) := by decide +kernel
theorem d65_21 : decode (cod 65) 21 = .ok (.aload_n 0, 1) := by decide +kernel
theorem d65_22 : decode (cod 65) 22 = .ok (.getfield 18, 3) := by decide +kernel
theorem d65_25 : decode (cod 65) 25 = .ok (.aload_n 0, 1) := by decide +kernel
theorem d65_26 : decode (cod 65) 26 = .ok (.getfield 9, 3) := by decide +kernel
theorem d65_29 : decode (cod 65) 29 = .ok (.bipush 120, 2) := by decide +kernel
theorem d65_31 : decode (cod 65) 31 = .ok (.imul, 1) := by decide +kernel
theorem d65_32 : decode (cod 65) 32 = .ok (.invokevirtual 57, 3) := by decide +kernel
theorem d65_35 : decode (cod 65) 35 = .ok (.iconst 0, 1) := by decide +kernel
theorem d65_36 : decode (cod 65) 36 = .ok (.istore_n 1, 1) := by decide +kernel
theorem d65_37 : decode (cod 65) 37 = .ok (.iload_n 1, 1) := by decide +kernel
theorem d65_38 : decode (cod 65) 38 = .ok (.bipush 8, 2) := by decide +kernel
theorem d65_40 : decode (cod 65) 40 = .ok (.if_icmp .ge 72, 3) := by decide +kernel
theorem d65_43 : decode (cod 65) 43 = .ok (.aload_n 0, 1) := by decide +kernel
theorem d65_44 : decode (cod 65) 44 = .ok (.aload_n 0, 1) := by decide +kernel
theorem d65_45 : decode (cod 65) 45 = .ok (.getfield 9, 3) := by decide +kernel
theorem d65_48 : decode (cod 65) 48 = .ok (.bipush 8, 2) := by decide +kernel
theorem d65_50 : decode (cod 65) 50 = .ok (.imul, 1) := by decide +kernel
theorem d65_51 : decode (cod 65) 51 = .ok (.iload_n 1, 1) := by decide +kernel
theorem d65_52 : decode (cod 65) 52 = .ok (.iadd, 1) := by decide +kernel
theorem d65_53 : decode (cod 65) 53 = .ok (.invokevirtual 61, 3) := by decide +kernel
theorem d65_56 : decode (cod 65) 56 = .ok (.aload_n 0, 1) := by decide +kernel
theorem d65_57 : decode (cod 65) 57 = .ok (.getfield 29, 3) := by decide +kernel
theorem d65_60 : decode (cod 65) 60 = .ok (.aload_n 0, 1) := by decide +kernel
theorem d65_61 : decode (cod 65) 61 = .ok (.getfield 9, 3) := by decide +kernel
theorem d65_64 : decode (cod 65) 64 = .ok (.iload_n 1, 1) := by decide +kernel
theorem d65_65 : decode (cod 65) 65 = .ok (.iconst 1, 1) := by decide +kernel
theorem d65_66 : decode (cod 65) 66 = .ok (.iadd, 1) := by decide +kernel
theorem d65_67 : decode (cod 65) 67 = .ok (.iastore, 1) := by decide +kernel
theorem d65_68 : decode (cod 65) 68 = .ok (.aload_n 0, 1) := by decide +kernel
theorem d65_69 : decode (cod 65) 69 = .ok (.getfield 18, 3) := by decide +kernel
theorem d65_72 : decode (cod 65) 72 = .ok (.invokevirtual 64, 3) := by decide +kernel
theorem d65_75 : decode (cod 65) 75 = .ok (.ifCond .ne 37, 3) := by decide +kernel
theorem d65_78 : decode (cod 65) 78 = .ok (.aload_n 0, 1) := by decide +kernel
theorem d65_79 : decode (cod 65) 79 = .ok (.getfield 18, 3) := by decide +kernel
theorem d65_82 : decode (cod 65) 82 = .ok (.getfield 68, 3) := by decide +kernel
theorem d65_85 : decode (cod 65) 85 = .ok (.ifCond .eq 6, 3) := by decide +kernel
theorem d65_88 : decode (cod 65) 88 = .ok (.goto 24, 3) := by decide +kernel
theorem d65_91 : decode (cod 65) 91 = .ok (.iload_n 1, 1) := by decide +kernel
theorem d65_92 : decode (cod 65) 92 = .ok (.bipush 7, 2) := by decide +kernel
theorem d65_94 : decode (cod 65) 94 = .ok (.if_icmp .ge 12, 3) := by decide +kernel
theorem d65_97 : decode (cod 65) 97 = .ok (.aload_n 0, 1) := by decide +kernel
theorem d65_98 : decode (cod 65) 98 = .ok (.getfield 18, 3) := by decide +kernel
theorem d65_101 : decode (cod 65) 101 = .ok (.bipush 59, 2) := by decide +kernel
theorem d65_103 : decode (cod 65) 103 = .ok (.invokevirtual 72, 3) := by decide +kernel
theorem d65_106 : decode (cod 65) 106 = .ok (.iinc 1 1, 3) := by decide +kernel
theorem d65_109 : decode (cod 65) 109 = .ok (.goto (-72), 3) := by decide +kernel
theorem d65_112 : decode (cod 65) 112 = .ok (.aload_n 0, 1) := by decide +kernel
theorem d65_113 : decode (cod 65) 113 = .ok (.getfield 18, 3) := by decide +kernel
theorem d65_116 : decode (cod 65) 116 = .ok (.invokevirtual 64, 3) := by decide +kernel
theorem d65_119 : decode (cod 65) 119 = .ok (.ifCond .eq 7, 3) := by decide +kernel
theorem d65_122 : decode (cod 65) 122 = .ok (.iconst (-1), 1) := by decide +kernel
theorem d65_123 : decode (cod 65) 123 = .ok (.goto 10, 3) := by decide +kernel
theorem d65_126 : decode (cod 65) 126 = .ok (.aload_n 0, 1) := by decide +kernel
theorem d65_127 : decode (cod 65) 127 = .ok (.getfield 18, 3) := by decide +kernel
theorem d65_130 : decode (cod 65) 130 = .ok (.getfield 75, 3) := by decide +kernel
theorem d65_133 : decode (cod 65) 133 = .ok (.istore_n 1, 1) := by decide +kernel
theorem d65_134 : decode (cod 65) 134 = .ok (.aload_n 0, 1) := by decide +kernel
theorem d65_135 : decode (cod 65) 135 = .ok (.getfield 18, 3) := by decide +kernel
theorem d65_138 : decode (cod 65) 138 = .ok (.iconst 0, 1) := by decide +kernel
theorem d65_139 : decode (cod 65) 139 = .ok (.putfield 78, 3) := by decide +kernel
theorem d65_142 : decode (cod 65) 142 = .ok (.iload_n 1, 1) := by decide +kernel
theorem d65_143 : decode (cod 65) 143 = .ok (.ireturn, 1) := by decide +kernel
theorem d66_0 : decode (cod 66) 0 = .ok (.iload_n 1, 1) := by decide +kernel
theorem d66_1 : decode (cod 66) 1 = .ok (.ifCond .lt 9, 3) := by decide +kernel
theorem d66_4 : decode (cod 66) 4 = .ok (.iload_n 1, 1) := by decide +kernel
theorem d66_5 : decode (cod 66) 5 = .ok (.bipush 88, 2) := by decide +kernel
theorem d66_7 : decode (cod 66) 7 = .ok (.if_icmp .lt 4, 3) := by decide +kernel
theorem d66_10 : decode (cod 66) 10 = .ok (.return_, 1) := by decide +kernel
theorem d66_11 : decode (cod 66) 11 = .ok (.aload_n 0, 1) := by decide +kernel
theorem d66_12 : decode (cod 66) 12 = .ok (.getfield 18, 3) := by decide +kernel
theorem d66_15 : decode (cod 66) 15 = .ok (.invokevirtual 79, 3) := by decide +kernel
theorem d66_18 : decode (cod 66) 18 = .ok (.istore_n 2, 1) := by decide +kernel
theorem d66_19 : decode (cod 66) 19 = .ok (.aload_n 0, 1) := by decide +kernel
theorem d66_20 : decode (cod 66) 20 = .ok (.getfield 32, 3) := by decide +kernel
theorem d66_23 : decode (cod 66) 23 = .ok (.iload_n 1, 1) := by decide +kernel
theorem d66_24 : decode (cod 66) 24 = .ok (.iload_n 2, 1) := by decide +kernel
theorem d66_25 : decode (cod 66) 25 = .ok (.iastore, 1) := by decide +kernel
theorem d66_26 : decode (cod 66) 26 = .ok (.aload_n 0, 1) := by decide +kernel
theorem d66_27 : decode (cod 66) 27 = .ok (.getfield 18, 3) := by decide +kernel
theorem d66_30 : decode (cod 66) 30 = .ok (.bipush 32, 2) := by decide +kernel
theorem d66_32 : decode (cod 66) 32 = .ok (.invokevirtual 72, 3) := by decide +kernel
theorem d66_35 : decode (cod 66) 35 = .ok (.aload_n 0, 1) := by decide +kernel
theorem d66_36 : decode (cod 66) 36 = .ok (.getfield 22, 3) := by decide +kernel
theorem d66_39 : decode (cod 66) 39 = .ok (.iload_n 1, 1) := by decide +kernel
theorem d66_40 : decode (cod 66) 40 = .ok (.iload_n 2, 1) := by decide +kernel
theorem d66_41 : decode (cod 66) 41 = .ok (.iconst 5, 1) := by decide +kernel
theorem d66_42 : decode (cod 66) 42 = .ok (.if_icmp .ne 7, 3) := by decide +kernel
theorem d66_45 : decode (cod 66) 45 = .ok (.iconst 0, 1) := by decide +kernel
theorem d66_46 : decode (cod 66) 46 = .ok (.goto 10, 3) := by decide +kernel
theorem d66_49 : decode (cod 66) 49 = .ok (.aload_n 0, 1) := by decide +kernel
theorem d66_50 : decode (cod 66) 50 = .ok (.getfield 18, 3) := by decide +kernel
theorem d66_53 : decode (cod 66) 53 = .ok (.invokevirtual 82, 3) := by decide +kernel
theorem d66_56 : decode (cod 66) 56 = .ok (.iastore, 1) := by decide +kernel
theorem d66_57 : decode (cod 66) 57 = .ok (.iload_n 2, 1) := by decide +kernel
theorem d66_58 : decode (cod 66) 58 = .ok (.ifCond .ne 12, 3) := by decide +kernel
theorem d66_61 : decode (cod 66) 61 = .ok (.aload_n 0, 1) := by decide +kernel
theorem d66_62 : decode (cod 66) 62 = .ok (.getfield 18, 3) := by decide +kernel
theorem d66_65 : decode (cod 66) 65 = .ok (.bipush 32, 2) := by decide +kernel
theorem d66_67 : decode (cod 66) 67 = .ok (.invokevirtual 72, 3) := by decide +kernel
theorem d66_70 : decode (cod 66) 70 = .ok (.aload_n 0, 1) := by decide +kernel
theorem d66_71 : decode (cod 66) 71 = .ok (.getfield 35, 3) := by decide +kernel
theorem d66_74 : decode (cod 66) 74 = .ok (.iload_n 1, 1) := by decide +kernel
theorem d66_75 : decode (cod 66) 75 = .ok (.aload_n 0, 1) := by decide +kernel
theorem d66_76 : decode (cod 66) 76 = .ok (.getfield 18, 3) := by decide +kernel
theorem d66_79 : decode (cod 66) 79 = .ok (.getfield 85, 3) := by decide +kernel
theorem d66_82 : decode (cod 66) 82 = .ok (.iastore, 1) := by decide +kernel
theorem d66_83 : decode (cod 66) 83 = .ok (.iload_n 2, 1) := by decide +kernel
theorem d66_84 : decode (cod 66) 84 = .ok (.invokestatic 88, 3) := by decide +kernel
theorem d66_87 : decode (cod 66) 87 = .ok (.ifCond .eq 11, 3) := by decide +kernel
theorem d66_90 : decode (cod 66) 90 = .ok (.aload_n 0, 1) := by decide +kernel
theorem d66_91 : decode (cod 66) 91 = .ok (.getfield 18, 3) := by decide +kernel
theorem d66_94 : decode (cod 66) 94 = .ok (.iconst 0, 1) := by decide +kernel
theorem d66_95 : decode (cod 66) 95 = .ok (.invokevirtual 92, 3) := by decide +kernel
theorem d66_98 : decode (cod 66) 98 = .ok (.aload_n 0, 1) := by decide +kernel
theorem d66_99 : decode (cod 66) 99 = .ok (.getfield 38, 3) := by decide +kernel
theorem d66_102 : decode (cod 66) 102 = .ok (.iload_n 1, 1) := by decide +kernel
theorem d66_103 : decode (cod 66) 103 = .ok (.aload_n 0, 1) := by decide +kernel
theorem d66_104 : decode (cod 66) 104 = .ok (.getfield 18, 3) := by decide +kernel
theorem d66_107 : decode (cod 66) 107 = .ok (.getfield 85, 3) := by decide +kernel
theorem d66_110 : decode (cod 66) 110 = .ok (.iastore, 1) := by decide +kernel
theorem d66_111 : decode (cod 66) 111 = .ok (.return_, 1) := by decide +kernel
theorem d67_0 : decode (cod 67) 0 = .ok (.aload_n 0, 1) := by decide +kernel
theorem d67_1 : decode (cod 67) 1 = .ok (.getfield 9, 3) := by decide +kernel
theorem d67_4 : decode (cod 67) 4 = .ok (.bipush 11, 2) := by decide +kernel
theorem d67_6 : decode (cod 67) 6 = .ok (.if_icmp .lt 6, 3) := by decide +kernel
theorem d67_9 : decode (cod 67) 9 = .ok (.bipush (-4), 2) := by decide +kernel
theorem d67_11 : decode (cod 67) 11 = .ok (.ireturn, 1) := by decide +kernel
theorem d67_12 : decode (cod 67) 12 = .ok (.aload_n 0, 1) := by decide +kernel
theorem d67_13 : decode (cod 67) 13 = .ok (.getfield 26, 3) := by decide +kernel
theorem d67_16 : decode (cod 67) 16 = .ok (.aload_n 0, 1) := by decide +kernel
theorem d67_17 : decode (cod 67) 17 = .ok (.getfield 9, 3) := by decide +kernel
theorem d67_20 : decode (cod 67) 20 = .ok (.iload_n 1, 1) := by decide +kernel
theorem d67_21 : decode (cod 67) 21 = .ok (.iastore, 1) := by decide +kernel
theorem d67_22 : decode (cod 67) 22 = .ok (.aload_n 0, 1) := by decide +kernel
theorem d67_23 : decode (cod 67) 23 = .ok (.dup, 1) := by decide +kernel
theorem d67_24 : decode (cod 67) 24 = .ok (.getfield 9, 3) := by decide +kernel
theorem d67_27 : decode (cod 67) 27 = .ok (.dup_x1, 1) := by decide +kernel
theorem d67_28 : decode (cod 67) 28 = .ok (.iconst 1, 1) := by decide +kernel
theorem d67_29 : decode (cod 67) 29 = .ok (.iadd, 1) := by decide +kernel
theorem d67_30 : decode (cod 67) 30 = .ok (.putfield 9, 3) := by decide +kernel
theorem d67_33 : decode (cod 67) 33 = .ok (.ireturn, 1) := by decide +kernel
theorem d68_0 : decode (cod 68) 0 = .ok (.aload_n 0, 1) := by decide +kernel
theorem d68_1 : decode (cod 68) 1 = .ok (.getfield 9, 3) := by decide +kernel
theorem d68_4 : decode (cod 68) 4 = .ok (.ifCond .le 13, 3) := by decide +kernel
theorem d68_7 : decode (cod 68) 7 = .ok (.aload_n 0, 1) := by decide +kernel
theorem d68_8 : decode (cod 68) 8 = .ok (.dup, 1) := by decide +kernel
theorem d68_9 : decode (cod 68) 9 = .ok (.getfield 9, 3) := by decide +kernel
theorem d68_12 : decode (cod 68) 12 = .ok (.iconst 1, 1) := by decide +kernel
theorem d68_13 : decode (cod 68) 13 = .ok (.isub, 1) := by decide +kernel
theorem d68_14 : decode (cod 68) 14 = .ok (.putfield 9, 3) := by decide +kernel
theorem d68_17 : decode (cod 68) 17 = .ok (.return_, 1) := by decide +kernel
theorem d69_0 : decode (cod 69) 0 = .ok (.aload_n 0, 1) := by decide +kernel
theorem d69_1 : decode (cod 69) 1 = .ok (.getfield 41, 3) := by decide +kernel
theorem d69_4 : decode (cod 69) 4 = .ok (.iconst 0, 1) := by decide +kernel
theorem d69_5 : decode (cod 69) 5 = .ok (.iload_n 1, 1) := by decide +kernel
theorem d69_6 : decode (cod 69) 6 = .ok (.iastore, 1) := by decide +kernel
theorem d69_7 : decode (cod 69) 7 = .ok (.aload_n 0, 1) := by decide +kernel
theorem d69_8 : decode (cod 69) 8 = .ok (.getfield 41, 3) := by decide +kernel
theorem d69_11 : decode (cod 69) 11 = .ok (.iconst 1, 1) := by decide +kernel
theorem d69_12 : decode (cod 69) 12 = .ok (.iload_n 2, 1) := by decide +kernel
theorem d69_13 : decode (cod 69) 13 = .ok (.iastore, 1) := by decide +kernel
theorem d69_14 : decode (cod 69) 14 = .ok (.aload_n 0, 1) := by decide +kernel
theorem d69_15 : decode (cod 69) 15 = .ok (.getfield 41, 3) := by decide +kernel
theorem d69_18 : decode (cod 69) 18 = .ok (.iconst 2, 1) := by decide +kernel
theorem d69_19 : decode (cod 69) 19 = .ok (.iload_n 3, 1) := by decide +kernel
theorem d69_20 : decode (cod 69) 20 = .ok (.iastore, 1) := by decide +kernel
theorem d69_21 : decode (cod 69) 21 = .ok (.aload_n 0, 1) := by decide +kernel
theorem d69_22 : decode (cod 69) 22 = .ok (.getfield 41, 3) := by decide +kernel
theorem d69_25 : decode (cod 69) 25 = .ok (.iconst 3, 1) := by decide +kernel
theorem d69_26 : decode (cod 69) 26 = .ok (.iload 4, 2) := by decide +kernel
theorem d69_28 : decode (cod 69) 28 = .ok (.iastore, 1) := by decide +kernel
theorem d69_29 : decode (cod 69) 29 = .ok (.aload_n 0, 1) := by decide +kernel
theorem d69_30 : decode (cod 69) 30 = .ok (.getfield 41, 3) := by decide +kernel
theorem d69_33 : decode (cod 69) 33 = .ok (.iconst 4, 1) := by decide +kernel
theorem d69_34 : decode (cod 69) 34 = .ok (.iload 5, 2) := by decide +kernel
theorem d69_36 : decode (cod 69) 36 = .ok (.iastore, 1) := by decide +kernel
theorem d69_37 : decode (cod 69) 37 = .ok (.aload_n 0, 1) := by decide +kernel
theorem d69_38 : decode (cod 69) 38 = .ok (.getfield 41, 3) := by decide +kernel
theorem d69_41 : decode (cod 69) 41 = .ok (.iconst 5, 1) := by decide +kernel
theorem d69_42 : decode (cod 69) 42 = .ok (.iload 5, 2) := by decide +kernel
theorem d69_44 : decode (cod 69) 44 = .ok (.iastore, 1) := by decide +kernel
theorem d69_45 : decode (cod 69) 45 = .ok (.return_, 1) := by decide +kernel
theorem d70_0 : decode (cod 70) 0 = .ok (.iconst (-1), 1) := by decide +kernel
theorem d70_1 : decode (cod 70) 1 = .ok (.istore_n 3, 1) := by decide +kernel
theorem d70_2 : decode (cod 70) 2 = .ok (.iconst (-1), 1) := by decide +kernel
theorem d70_3 : decode (cod 70) 3 = .ok (.istore 4, 2) := by decide +kernel
theorem d70_5 : decode (cod 70) 5 = .ok (.iconst 0, 1) := by decide +kernel
theorem d70_6 : decode (cod 70) 6 = .ok (.istore 5, 2) := by decide +kernel
theorem d70_8 : decode (cod 70) 8 = .ok (.iload 5, 2) := by decide +kernel
theorem d70_10 : decode (cod 70) 10 = .ok (.aload_n 0, 1) := by decide +kernel
theorem d70_11 : decode (cod 70) 11 = .ok (.getfield 9, 3) := by decide +kernel
theorem d70_14 : decode (cod 70) 14 = .ok (.if_icmp .ge 114, 3) := by decide +kernel
theorem d70_17 : decode (cod 70) 17 = .ok (.iload 5, 2) := by decide +kernel
theorem d70_19 : decode (cod 70) 19 = .ok (.bipush 11, 2) := by decide +kernel
theorem d70_21 : decode (cod 70) 21 = .ok (.if_icmp .ge 107, 3) := by decide +kernel
theorem d70_24 : decode (cod 70) 24 = .ok (.aload_n 0, 1) := by decide +kernel
theorem d70_25 : decode (cod 70) 25 = .ok (.getfield 26, 3) := by decide +kernel
theorem d70_28 : decode (cod 70) 28 = .ok (.iload 5, 2) := by decide +kernel
theorem d70_30 : decode (cod 70) 30 = .ok (.iaload, 1) := by decide +kernel
theorem d70_31 : decode (cod 70) 31 = .ok (.iload_n 2, 1) := by decide +kernel
theorem d70_32 : decode (cod 70) 32 = .ok (.if_icmp .gt 90, 3) := by decide +kernel
theorem d70_35 : decode (cod 70) 35 = .ok (.aload_n 0, 1) := by decide +kernel
theorem d70_36 : decode (cod 70) 36 = .ok (.getfield 26, 3) := by decide +kernel
theorem d70_39 : decode (cod 70) 39 = .ok (.iload 5, 2) := by decide +kernel
theorem d70_41 : decode (cod 70) 41 = .ok (.iaload, 1) := by decide +kernel
theorem d70_42 : decode (cod 70) 42 = .ok (.iload 4, 2) := by decide +kernel
theorem d70_44 : decode (cod 70) 44 = .ok (.if_icmp .ge 6, 3) := by decide +kernel
theorem d70_47 : decode (cod 70) 47 = .ok (.goto 75, 3) := by decide +kernel
theorem d70_50 : decode (cod 70) 50 = .ok (.iload 5, 2) := by decide +kernel
theorem d70_52 : decode (cod 70) 52 = .ok (.bipush 8, 2) := by decide +kernel
theorem d70_54 : decode (cod 70) 54 = .ok (.imul, 1) := by decide +kernel
theorem d70_55 : decode (cod 70) 55 = .ok (.aload_n 0, 1) := by decide +kernel
theorem d70_56 : decode (cod 70) 56 = .ok (.getfield 29, 3) := by decide +kernel
theorem d70_59 : decode (cod 70) 59 = .ok (.iload 5, 2) := by decide +kernel
theorem d70_61 : decode (cod 70) 61 = .ok (.iaload, 1) := by decide +kernel
theorem d70_62 : decode (cod 70) 62 = .ok (.iadd, 1) := by decide +kernel
theorem d70_63 : decode (cod 70) 63 = .ok (.iconst 1, 1) := by decide +kernel
theorem d70_64 : decode (cod 70) 64 = .ok (.isub, 1) := by decide +kernel
theorem d70_65 : decode (cod 70) 65 = .ok (.istore 6, 2) := by decide +kernel
theorem d70_67 : decode (cod 70) 67 = .ok (.iload 6, 2) := by decide +kernel
theorem d70_69 : decode (cod 70) 69 = .ok (.iload 5, 2) := by decide +kernel
theorem d70_71 : decode (cod 70) 71 = .ok (.bipush 8, 2) := by decide +kernel
theorem d70_73 : decode (cod 70) 73 = .ok (.imul, 1) := by decide +kernel
theorem d70_74 : decode (cod 70) 74 = .ok (.if_icmp .lt 48, 3) := by decide +kernel
theorem d70_77 : decode (cod 70) 77 = .ok (.aload_n 0, 1) := by decide +kernel
theorem d70_78 : decode (cod 70) 78 = .ok (.getfield 32, 3) := by decide +kernel
theorem d70_81 : decode (cod 70) 81 = .ok (.iload 6, 2) := by decide +kernel
theorem d70_83 : decode (cod 70) 83 = .ok (.iaload, 1) := by decide +kernel
theorem d70_84 : decode (cod 70) 84 = .ok (.iload_n 1, 1) := by decide +kernel
theorem d70_85 : decode (cod 70) 85 = .ok (.if_icmp .ne 31, 3) := by decide +kernel
theorem d70_88 : decode (cod 70) 88 = .ok (.iload_n 1, 1) := by decide +kernel
theorem d70_89 : decode (cod 70) 89 = .ok (.ifCond .ne 12, 3) := by decide +kernel
theorem d70_92 : decode (cod 70) 92 = .ok (.aload_n 0, 1) := by decide +kernel
theorem d70_93 : decode (cod 70) 93 = .ok (.iload 6, 2) := by decide +kernel
theorem d70_95 : decode (cod 70) 95 = .ok (.invokevirtual 95, 3) := by decide +kernel
theorem d70_98 : decode (cod 70) 98 = .ok (.ifCond .eq 18, 3) := by decide +kernel
theorem d70_101 : decode (cod 70) 101 = .ok (.iload 6, 2) := by decide +kernel
theorem d70_103 : decode (cod 70) 103 = .ok (.istore_n 3, 1) := by decide +kernel
theorem d70_104 : decode (cod 70) 104 = .ok (.aload_n 0, 1) := by decide +kernel
theorem d70_105 : decode (cod 70) 105 = .ok (.getfield 26, 3) := by decide +kernel
theorem d70_108 : decode (cod 70) 108 = .ok (.iload 5, 2) := by decide +kernel
theorem d70_110 : decode (cod 70) 110 = .ok (.iaload, 1) := by decide +kernel
theorem d70_111 : decode (cod 70) 111 = .ok (.istore 4, 2) := by decide +kernel
theorem d70_113 : decode (cod 70) 113 = .ok (.goto 9, 3) := by decide +kernel
theorem d70_116 : decode (cod 70) 116 = .ok (.iinc 6 (-1), 3) := by decide +kernel
theorem d70_119 : decode (cod 70) 119 = .ok (.goto (-52), 3) := by decide +kernel
theorem d70_122 : decode (cod 70) 122 = .ok (.iinc 5 1, 3) := by decide +kernel
theorem d70_125 : decode (cod 70) 125 = .ok (.goto (-117), 3) := by decide +kernel
theorem d70_128 : decode (cod 70) 128 = .ok (.iload_n 3, 1) := by decide +kernel
theorem d70_129 : decode (cod 70) 129 = .ok (.ireturn, 1) := by decide +kernel
theorem d71_0 : decode (cod 71) 0 = .ok (.iload_n 1, 1) := by decide +kernel
theorem d71_1 : decode (cod 71) 1 = .ok (.ifCond .lt 9, 3) := by decide +kernel
theorem d71_4 : decode (cod 71) 4 = .ok (.iload_n 1, 1) := by decide +kernel
theorem d71_5 : decode (cod 71) 5 = .ok (.bipush 88, 2) := by decide +kernel
theorem d71_7 : decode (cod 71) 7 = .ok (.if_icmp .lt 5, 3) := by decide +kernel
theorem d71_10 : decode (cod 71) 10 = .ok (.iconst 0, 1) := by decide +kernel
theorem d71_11 : decode (cod 71) 11 = .ok (.ireturn, 1) := by decide +kernel
theorem d71_12 : decode (cod 71) 12 = .ok (.iconst 0, 1) := by decide +kernel
theorem d71_13 : decode (cod 71) 13 = .ok (.istore_n 2, 1) := by decide +kernel
theorem d71_14 : decode (cod 71) 14 = .ok (.aload_n 0, 1) := by decide +kernel
theorem d71_15 : decode (cod 71) 15 = .ok (.getfield 35, 3) := by decide +kernel
theorem d71_18 : decode (cod 71) 18 = .ok (.iload_n 1, 1) := by decide +kernel
theorem d71_19 : decode (cod 71) 19 = .ok (.iaload, 1) := by decide +kernel
theorem d71_20 : decode (cod 71) 20 = .ok (.istore_n 3, 1) := by decide +kernel
theorem d71_21 : decode (cod 71) 21 = .ok (.iload_n 3, 1) := by decide +kernel
theorem d71_22 : decode (cod 71) 22 = .ok (.aload_n 0, 1) := by decide +kernel
theorem d71_23 : decode (cod 71) 23 = .ok (.getfield 38, 3) := by decide +kernel
theorem d71_26 : decode (cod 71) 26 = .ok (.iload_n 1, 1) := by decide +kernel
theorem d71_27 : decode (cod 71) 27 = .ok (.iaload, 1) := by decide +kernel
theorem d71_28 : decode (cod 71) 28 = .ok (.if_icmp .ge 106, 3) := by decide +kernel
theorem d71_31 : decode (cod 71) 31 = .ok (.iload_n 3, 1) := by decide +kernel
theorem d71_32 : decode (cod 71) 32 = .ok (.sipush 1320, 3) := by decide +kernel
theorem d71_35 : decode (cod 71) 35 = .ok (.if_icmp .ge 99, 3) := by decide +kernel
theorem d71_38 : decode (cod 71) 38 = .ok (.aload_n 0, 1) := by decide +kernel
theorem d71_39 : decode (cod 71) 39 = .ok (.getfield 18, 3) := by decide +kernel
theorem d71_42 : decode (cod 71) 42 = .ok (.getfield 98, 3) := by decide +kernel
theorem d71_45 : decode (cod 71) 45 = .ok (.iload_n 3, 1) := by decide +kernel
theorem d71_46 : decode (cod 71) 46 = .ok (.iaload, 1) := by decide +kernel
theorem d71_47 : decode (cod 71) 47 = .ok (.istore 4, 2) := by decide +kernel
theorem d71_49 : decode (cod 71) 49 = .ok (.iload 4, 2) := by decide +kernel
theorem d71_51 : decode (cod 71) 51 = .ok (.iconst (-1), 1) := by decide +kernel
theorem d71_52 : decode (cod 71) 52 = .ok (.if_icmp .ne 10, 3) := by decide +kernel
theorem d71_55 : decode (cod 71) 55 = .ok (.iload_n 2, 1) := by decide +kernel
theorem d71_56 : decode (cod 71) 56 = .ok (.iconst 1, 1) := by decide +kernel
theorem d71_57 : decode (cod 71) 57 = .ok (.ixor, 1) := by decide +kernel
theorem d71_58 : decode (cod 71) 58 = .ok (.istore_n 2, 1) := by decide +kernel
theorem d71_59 : decode (cod 71) 59 = .ok (.goto 69, 3) := by decide +kernel
theorem d71_62 : decode (cod 71) 62 = .ok (.iload 4, 2) := by decide +kernel
theorem d71_64 : decode (cod 71) 64 = .ok (.bipush (-2), 2) := by decide +kernel
theorem d71_66 : decode (cod 71) 66 = .ok (.if_icmp .ne 15, 3) := by decide +kernel
theorem d71_69 : decode (cod 71) 69 = .ok (.iload_n 2, 1) := by decide +kernel
theorem d71_70 : decode (cod 71) 70 = .ok (.iconst 1, 1) := by decide +kernel
theorem d71_71 : decode (cod 71) 71 = .ok (.ishr, 1) := by decide +kernel
theorem d71_72 : decode (cod 71) 72 = .ok (.iload_n 2, 1) := by decide +kernel
theorem d71_73 : decode (cod 71) 73 = .ok (.bipush (-2), 2) := by decide +kernel
theorem d71_75 : decode (cod 71) 75 = .ok (.ior, 1) := by decide +kernel
theorem d71_76 : decode (cod 71) 76 = .ok (.iand, 1) := by decide +kernel
theorem d71_77 : decode (cod 71) 77 = .ok (.istore_n 2, 1) := by decide +kernel
theorem d71_78 : decode (cod 71) 78 = .ok (.goto 50, 3) := by decide +kernel
theorem d71_81 : decode (cod 71) 81 = .ok (.iload 4, 2) := by decide +kernel
theorem d71_83 : decode (cod 71) 83 = .ok (.bipush (-3), 2) := by decide +kernel
theorem d71_85 : decode (cod 71) 85 = .ok (.if_icmp .ne 14, 3) := by decide +kernel
theorem d71_88 : decode (cod 71) 88 = .ok (.iload_n 2, 1) := by decide +kernel
theorem d71_89 : decode (cod 71) 89 = .ok (.iconst 1, 1) := by decide +kernel
theorem d71_90 : decode (cod 71) 90 = .ok (.ishr, 1) := by decide +kernel
theorem d71_91 : decode (cod 71) 91 = .ok (.iload_n 2, 1) := by decide +kernel
theorem d71_92 : decode (cod 71) 92 = .ok (.iconst 1, 1) := by decide +kernel
theorem d71_93 : decode (cod 71) 93 = .ok (.iand, 1) := by decide +kernel
theorem d71_94 : decode (cod 71) 94 = .ok (.ior, 1) := by decide +kernel
theorem d71_95 : decode (cod 71) 95 = .ok (.istore_n 2, 1) := by decide +kernel
theorem d71_96 : decode (cod 71) 96 = .ok (.goto 32, 3) := by decide +kernel
theorem d71_99 : decode (cod 71) 99 = .ok (.iload_n 2, 1) := by decide +kernel
theorem d71_100 : decode (cod 71) 100 = .ok (.iconst 1, 1) := by decide +kernel
theorem d71_101 : decode (cod 71) 101 = .ok (.ishl, 1) := by decide +kernel
theorem d71_102 : decode (cod 71) 102 = .ok (.aload_n 0, 1) := by decide +kernel
theorem d71_103 : decode (cod 71) 103 = .ok (.iload 4, 2) := by decide +kernel
theorem d71_105 : decode (cod 71) 105 = .ok (.sipush 1000, 3) := by decide +kernel
theorem d71_108 : decode (cod 71) 108 = .ok (.idiv, 1) := by decide +kernel
theorem d71_109 : decode (cod 71) 109 = .ok (.iload 4, 2) := by decide +kernel
theorem d71_111 : decode (cod 71) 111 = .ok (.sipush 1000, 3) := by decide +kernel
theorem d71_114 : decode (cod 71) 114 = .ok (.irem, 1) := by decide +kernel
theorem d71_115 : decode (cod 71) 115 = .ok (.invokevirtual 101, 3) := by decide +kernel
theorem d71_118 : decode (cod 71) 118 = .ok (.ifCond .eq 7, 3) := by decide +kernel
theorem d71_121 : decode (cod 71) 121 = .ok (.iconst 1, 1) := by decide +kernel
theorem d71_122 : decode (cod 71) 122 = .ok (.goto 4, 3) := by decide +kernel
theorem d71_125 : decode (cod 71) 125 = .ok (.iconst 0, 1) := by decide +kernel
theorem d71_126 : decode (cod 71) 126 = .ok (.ior, 1) := by decide +kernel
theorem d71_127 : decode (cod 71) 127 = .ok (.istore_n 2, 1) := by decide +kernel
theorem d71_128 : decode (cod 71) 128 = .ok (.iinc 3 1, 3) := by decide +kernel
theorem d71_131 : decode (cod 71) 131 = .ok (.goto (-110), 3) := by decide +kernel
theorem d71_134 : decode (cod 71) 134 = .ok (.iload_n 2, 1) := by decide +kernel
theorem d71_135 : decode (cod 71) 135 = .ok (.iconst 1, 1) := by decide +kernel
theorem d71_136 : decode (cod 71) 136 = .ok (.iand, 1) := by decide +kernel
theorem d71_137 : decode (cod 71) 137 = .ok (.ifCond .eq 7, 3) := by decide +kernel
theorem d71_140 : decode (cod 71) 140 = .ok (.iconst 1, 1) := by decide +kernel
theorem d71_141 : decode (cod 71) 141 = .ok (.goto 4, 3) := by decide +kernel
theorem d71_144 : decode (cod 71) 144 = .ok (.iconst 0, 1) := by decide +kernel
theorem d71_145 : decode (cod 71) 145 = .ok (.ireturn, 1) := by decide +kernel
theorem d72_0 : decode (cod 72) 0 = .ok (.iload_n 1, 1) := by decide +kernel
theorem d72_1 : decode (cod 72) 1 = .ok (.ifCond .lt 9, 3) := by decide +kernel
theorem d72_4 : decode (cod 72) 4 = .ok (.iload_n 1, 1) := by decide +kernel
theorem d72_5 : decode (cod 72) 5 = .ok (.bipush 6, 2) := by decide +kernel
theorem d72_7 : decode (cod 72) 7 = .ok (.if_icmp .lt 5, 3) := by decide +kernel
theorem d72_10 : decode (cod 72) 10 = .ok (.iconst 0, 1) := by decide +kernel
theorem d72_11 : decode (cod 72) 11 = .ok (.ireturn, 1) := by decide +kernel
theorem d72_12 : decode (cod 72) 12 = .ok (.iload_n 1, 1) := by decide +kernel
theorem d72_13 : decode (cod 72) 13 = .ok (.iconst 4, 1) := by decide +kernel
theorem d72_14 : decode (cod 72) 14 = .ok (.if_icmp .ne 19, 3) := by decide +kernel
theorem d72_17 : decode (cod 72) 17 = .ok (.aload_n 0, 1) := by decide +kernel
theorem d72_18 : decode (cod 72) 18 = .ok (.getfield 41, 3) := by decide +kernel
theorem d72_21 : decode (cod 72) 21 = .ok (.iload_n 1, 1) := by decide +kernel
theorem d72_22 : decode (cod 72) 22 = .ok (.iaload, 1) := by decide +kernel
theorem d72_23 : decode (cod 72) 23 = .ok (.iload_n 2, 1) := by decide +kernel
theorem d72_24 : decode (cod 72) 24 = .ok (.if_icmp .ge 7, 3) := by decide +kernel
theorem d72_27 : decode (cod 72) 27 = .ok (.iconst 1, 1) := by decide +kernel
theorem d72_28 : decode (cod 72) 28 = .ok (.goto 4, 3) := by decide +kernel
theorem d72_31 : decode (cod 72) 31 = .ok (.iconst 0, 1) := by decide +kernel
theorem d72_32 : decode (cod 72) 32 = .ok (.ireturn, 1) := by decide +kernel
theorem d72_33 : decode (cod 72) 33 = .ok (.iload_n 1, 1) := by decide +kernel
theorem d72_34 : decode (cod 72) 34 = .ok (.iconst 5, 1) := by decide +kernel
theorem d72_35 : decode (cod 72) 35 = .ok (.if_icmp .ne 19, 3) := by decide +kernel
theorem d72_38 : decode (cod 72) 38 = .ok (.aload_n 0, 1) := by decide +kernel
theorem d72_39 : decode (cod 72) 39 = .ok (.getfield 41, 3) := by decide +kernel
theorem d72_42 : decode (cod 72) 42 = .ok (.iload_n 1, 1) := by decide +kernel
theorem d72_43 : decode (cod 72) 43 = .ok (.iaload, 1) := by decide +kernel
theorem d72_44 : decode (cod 72) 44 = .ok (.iload_n 2, 1) := by decide +kernel
theorem d72_45 : decode (cod 72) 45 = .ok (.if_icmp .le 7, 3) := by decide +kernel
theorem d72_48 : decode (cod 72) 48 = .ok (.iconst 1, 1) := by decide +kernel
theorem d72_49 : decode (cod 72) 49 = .ok (.goto 4, 3) := by decide +kernel
theorem d72_52 : decode (cod 72) 52 = .ok (.iconst 0, 1) := by decide +kernel
theorem d72_53 : decode (cod 72) 53 = .ok (.ireturn, 1) := by decide +kernel
theorem d72_54 : decode (cod 72) 54 = .ok (.aload_n 0, 1) := by decide +kernel
theorem d72_55 : decode (cod 72) 55 = .ok (.getfield 41, 3) := by decide +kernel
theorem d72_58 : decode (cod 72) 58 = .ok (.iload_n 1, 1) := by decide +kernel
theorem d72_59 : decode (cod 72) 59 = .ok (.iaload, 1) := by decide +kernel
theorem d72_60 : decode (cod 72) 60 = .ok (.iload_n 2, 1) := by decide +kernel
theorem d72_61 : decode (cod 72) 61 = .ok (.if_icmp .ne 7, 3) := by decide +kernel
theorem d72_64 : decode (cod 72) 64 = .ok (.iconst 1, 1) := by decide +kernel
theorem d72_65 : decode (cod 72) 65 = .ok (.goto 4, 3) := by decide +kernel
theorem d72_68 : decode (cod 72) 68 = .ok (.iconst 0, 1) := by decide +kernel
theorem d72_69 : decode (cod 72) 69 = .ok (.ireturn, 1) := by decide +kernel
theorem d73_0 : decode (cod 73) 0 = .ok (.aload_n 0, 1) := by decide +kernel
theorem d73_1 : decode (cod 73) 1 = .ok (.invokespecial 3, 3) := by decide +kernel
theorem d73_4 : decode (cod 73) 4 = .ok (.aload_n 0, 1) := by decide +kernel
theorem d73_5 : decode (cod 73) 5 = .ok (.iconst 0, 1) := by decide +kernel
theorem d73_6 : decode (cod 73) 6 = .ok (.putfield 9, 3) := by decide +kernel
theorem d73_9 : decode (cod 73) 9 = .ok (.aload_n 0, 1) := by decide +kernel
theorem d73_10 : decode (cod 73) 10 = .ok (.iconst 0, 1) := by decide +kernel
theorem d73_11 : decode (cod 73) 11 = .ok (.putfield 15, 3) := by decide +kernel
theorem d73_14 : decode (cod 73) 14 = .ok (.aload_n 0, 1) := by decide +kernel
theorem d73_15 : decode (cod 73) 15 = .ok (.iconst 0, 1) := by decide +kernel
theorem d73_16 : decode (cod 73) 16 = .ok (.putfield 18, 3) := by decide +kernel
theorem d73_19 : decode (cod 73) 19 = .ok (.aload_n 0, 1) := by decide +kernel
theorem d73_20 : decode (cod 73) 20 = .ok (.iconst 0, 1) := by decide +kernel
theorem d73_21 : decode (cod 73) 21 = .ok (.putfield 21, 3) := by decide +kernel
theorem d73_24 : decode (cod 73) 24 = .ok (.aload_n 0, 1) := by decide +kernel
theorem d73_25 : decode (cod 73) 25 = .ok (.sipush 1320, 3) := by decide +kernel
theorem d73_28 : decode (cod 73) 28 = .ok (.newarray .int, 2) := by decide +kernel
theorem d73_30 : decode (cod 73) 30 = .ok (.putfield 25, 3) := by decide +kernel
theorem d73_33 : decode (cod 73) 33 = .ok (.aload_n 0, 1) := by decide +kernel
theorem d73_34 : decode (cod 73) 34 = .ok (.bipush 120, 2) := by decide +kernel
theorem d73_36 : decode (cod 73) 36 = .ok (.newarray .byte, 2) := by decide +kernel
theorem d73_38 : decode (cod 73) 38 = .ok (.putfield 29, 3) := by decide +kernel
theorem d73_41 : decode (cod 73) 41 = .ok (.return_, 1) := by decide +kernel
theorem d74_0 : decode (cod 74) 0 = .ok (.aload_n 0, 1) := by decide +kernel
theorem d74_1 : decode (cod 74) 1 = .ok (.aload_n 1, 1) := by decide +kernel
theorem d74_2 : decode (cod 74) 2 = .ok (.getfield 9, 3) := by decide +kernel
theorem d74_5 : decode (cod 74) 5 = .ok (.putfield 9, 3) := by decide +kernel
theorem d74_8 : decode (cod 74) 8 = .ok (.aload_n 1, 1) := by decide +kernel
theorem d74_9 : decode (cod 74) 9 = .ok (.getfield 25, 3) := by decide +kernel
theorem d74_12 : decode (cod 74) 12 = .ok (.iconst 0, 1) := by decide +kernel
theorem d74_13 : decode (cod 74) 13 = .ok (.aload_n 0, 1) := by decide +kernel
theorem d74_14 : decode (cod 74) 14 = .ok (.getfield 25, 3) := by decide +kernel
theorem d74_17 : decode (cod 74) 17 = .ok (.iconst 0, 1) := by decide +kernel
theorem d74_18 : decode (cod 74) 18 = .ok (.sipush 1320, 3) := by decide +kernel
theorem d74_21 : decode (cod 74) 21 = .ok (.invokestatic 33, 3) := by decide +kernel
theorem d74_24 : decode (cod 74) 24 = .ok (.aload_n 1, 1) := by decide +kernel
theorem d74_25 : decode (cod 74) 25 = .ok (.getfield 29, 3) := by decide +kernel
theorem d74_28 : decode (cod 74) 28 = .ok (.iconst 0, 1) := by decide +kernel
theorem d74_29 : decode (cod 74) 29 = .ok (.aload_n 0, 1) := by decide +kernel
theorem d74_30 : decode (cod 74) 30 = .ok (.getfield 29, 3) := by decide +kernel
theorem d74_33 : decode (cod 74) 33 = .ok (.iconst 0, 1) := by decide +kernel
theorem d74_34 : decode (cod 74) 34 = .ok (.bipush 120, 2) := by decide +kernel
theorem d74_36 : decode (cod 74) 36 = .ok (.invokestatic 33, 3) := by decide +kernel
theorem d74_39 : decode (cod 74) 39 = .ok (.return_, 1) := by decide +kernel
theorem d75_0 : decode (cod 75) 0 = .ok (.iload_n 3, 1) := by decide +kernel
theorem d75_1 : decode (cod 75) 1 = .ok (.iconst 1, 1) := by decide +kernel
theorem d75_2 : decode (cod 75) 2 = .ok (.isub, 1) := by decide +kernel
theorem d75_3 : decode (cod 75) 3 = .ok (.istore 4, 2) := by decide +kernel
theorem d75_5 : decode (cod 75) 5 = .ok (.iload 4, 2) := by decide +kernel
theorem d75_7 : decode (cod 75) 7 = .ok (.ifCond .lt 46, 3) := by decide +kernel
theorem d75_10 : decode (cod 75) 10 = .ok (.aload_n 0, 1) := by decide +kernel
theorem d75_11 : decode (cod 75) 11 = .ok (.getfield 9, 3) := by decide +kernel
theorem d75_14 : decode (cod 75) 14 = .ok (.bipush 120, 2) := by decide +kernel
theorem d75_16 : decode (cod 75) 16 = .ok (.if_icmp .ge 37, 3) := by decide +kernel
theorem d75_19 : decode (cod 75) 19 = .ok (.aload_n 0, 1) := by decide +kernel
theorem d75_20 : decode (cod 75) 20 = .ok (.getfield 29, 3) := by decide +kernel
theorem d75_23 : decode (cod 75) 23 = .ok (.aload_n 0, 1) := by decide +kernel
theorem d75_24 : decode (cod 75) 24 = .ok (.getfield 9, 3) := by decide +kernel
theorem d75_27 : decode (cod 75) 27 = .ok (.lload_n 1, 1) := by decide +kernel
theorem d75_28 : decode (cod 75) 28 = .ok (.bipush 8, 2) := by decide +kernel
theorem d75_30 : decode (cod 75) 30 = .ok (.iload 4, 2) := by decide +kernel
theorem d75_32 : decode (cod 75) 32 = .ok (.imul, 1) := by decide +kernel
theorem d75_33 : decode (cod 75) 33 = .ok (.lshr, 1) := by decide +kernel
theorem d75_34 : decode (cod 75) 34 = .ok (.l2i, 1) := by decide +kernel
theorem d75_35 : decode (cod 75) 35 = .ok (.i2b, 1) := by decide +kernel
theorem d75_36 : decode (cod 75) 36 = .ok (.bastore, 1) := by decide +kernel
theorem d75_37 : decode (cod 75) 37 = .ok (.aload_n 0, 1) := by decide +kernel
theorem d75_38 : decode (cod 75) 38 = .ok (.dup, 1) := by decide +kernel
theorem d75_39 : decode (cod 75) 39 = .ok (.getfield 9, 3) := by decide +kernel
theorem d75_42 : decode (cod 75) 42 = .ok (.iconst 1, 1) := by decide +kernel
theorem d75_43 : decode (cod 75) 43 = .ok (.iadd, 1) := by decide +kernel
theorem d75_44 : decode (cod 75) 44 = .ok (.putfield 9, 3) := by decide +kernel
theorem d75_47 : decode (cod 75) 47 = .ok (.iinc 4 (-1), 3) := by decide +kernel
theorem d75_50 : decode (cod 75) 50 = .ok (.goto (-45), 3) := by decide +kernel
theorem d75_53 : decode (cod 75) 53 = .ok (.aload_n 0, 1) := by decide +kernel
theorem d75_54 : decode (cod 75) 54 = .ok (.getfield 9, 3) := by decide +kernel
theorem d75_57 : decode (cod 75) 57 = .ok (.ireturn, 1) := by decide +kernel
theorem d76_0 : decode (cod 76) 0 = .ok (.aload_n 0, 1) := by decide +kernel
theorem d76_1 : decode (cod 76) 1 = .ok (.iconst 0, 1) := by decide +kernel
theorem d76_2 : decode (cod 76) 2 = .ok (.putfield 15, 3) := by decide +kernel
theorem d76_5 : decode (cod 76) 5 = .ok (.aload_n 0, 1) := by decide +kernel
theorem d76_6 : decode (cod 76) 6 = .ok (.iload_n 1, 1) := by decide +kernel
theorem d76_7 : decode (cod 76) 7 = .ok (.putfield 18, 3) := by decide +kernel
theorem d76_10 : decode (cod 76) 10 = .ok (.aload_n 0, 1) := by decide +kernel
theorem d76_11 : decode (cod 76) 11 = .ok (.iconst 0, 1) := by decide +kernel
theorem d76_12 : decode (cod 76) 12 = .ok (.putfield 21, 3) := by decide +kernel
theorem d76_15 : decode (cod 76) 15 = .ok (.return_, 1) := by decide +kernel
theorem d77_0 : decode (cod 77) 0 = .ok (.aload_n 0, 1) := by decide +kernel
theorem d77_1 : decode (cod 77) 1 = .ok (.getfield 21, 3) := by decide +kernel
theorem d77_4 : decode (cod 77) 4 = .ok (.ifCond .ne 18, 3) := by decide +kernel
theorem d77_7 : decode (cod 77) 7 = .ok (.aload_n 0, 1) := by decide +kernel
theorem d77_8 : decode (cod 77) 8 = .ok (.getfield 15, 3) := by decide +kernel
theorem d77_11 : decode (cod 77) 11 = .ok (.aload_n 0, 1) := by decide +kernel
theorem d77_12 : decode (cod 77) 12 = .ok (.getfield 9, 3) := by decide +kernel
theorem d77_15 : decode (cod 77) 15 = .ok (.if_icmp .lt 7, 3) := by decide +kernel
theorem d77_18 : decode (cod 77) 18 = .ok (.iconst 1, 1) := by decide +kernel
theorem d77_19 : decode (cod 77) 19 = .ok (.goto 4, 3) := by decide +kernel
theorem d77_22 : decode (cod 77) 22 = .ok (.iconst 0, 1) := by decide +kernel
theorem d77_23 : decode (cod 77) 23 = .ok (.ireturn, 1) := by decide +kernel
theorem d78_0 : decode (cod 78) 0 = .ok (.aload_n 0, 1) := by decide +kernel
theorem d78_1 : decode (cod 78) 1 = .ok (.getfield 15, 3) := by decide +kernel
theorem d78_4 : decode (cod 78) 4 = .ok (.ifCond .lt 39, 3) := by decide +kernel
theorem d78_7 : decode (cod 78) 7 = .ok (.aload_n 0, 1) := by decide +kernel
theorem d78_8 : decode (cod 78) 8 = .ok (.getfield 15, 3) := by decide +kernel
theorem d78_11 : decode (cod 78) 11 = .ok (.aload_n 0, 1) := by decide +kernel
theorem d78_12 : decode (cod 78) 12 = .ok (.getfield 9, 3) := by decide +kernel
theorem d78_15 : decode (cod 78) 15 = .ok (.if_icmp .ge 28, 3) := by decide +kernel
theorem d78_18 : decode (cod 78) 18 = .ok (.aload_n 0, 1) := by decide +kernel
theorem d78_19 : decode (cod 78) 19 = .ok (.getfield 15, 3) := by decide +kernel
theorem d78_22 : decode (cod 78) 22 = .ok (.bipush 120, 2) := by decide +kernel
theorem d78_24 : decode (cod 78) 24 = .ok (.if_icmp .ge 19, 3) := by decide +kernel
theorem d78_27 : decode (cod 78) 27 = .ok (.aload_n 0, 1) := by decide +kernel
theorem d78_28 : decode (cod 78) 28 = .ok (.getfield 29, 3) := by decide +kernel
theorem d78_31 : decode (cod 78) 31 = .ok (.aload_n 0, 1) := by decide +kernel
theorem d78_32 : decode (cod 78) 32 = .ok (.getfield 15, 3) := by decide +kernel
theorem d78_35 : decode (cod 78) 35 = .ok (.baload, 1) := by decide +kernel
theorem d78_36 : decode (cod 78) 36 = .ok (.sipush 255, 3) := by decide +kernel
theorem d78_39 : decode (cod 78) 39 = .ok (.iand, 1) := by decide +kernel
theorem d78_40 : decode (cod 78) 40 = .ok (.goto 4, 3) := by decide +kernel
theorem d78_43 : decode (cod 78) 43 = .ok (.iconst (-1), 1) := by decide +kernel
theorem d78_44 : decode (cod 78) 44 = .ok (.ireturn, 1) := by decide +kernel
theorem d79_0 : decode (cod 79) 0 = .ok (.aload_n 0, 1) := by decide +kernel
theorem d79_1 : decode (cod 79) 1 = .ok (.getfield 21, 3) := by decide +kernel
theorem d79_4 : decode (cod 79) 4 = .ok (.ifCond .ne 24, 3) := by decide +kernel
theorem d79_7 : decode (cod 79) 7 = .ok (.aload_n 0, 1) := by decide +kernel
theorem d79_8 : decode (cod 79) 8 = .ok (.invokevirtual 39, 3) := by decide +kernel
theorem d79_11 : decode (cod 79) 11 = .ok (.iload_n 1, 1) := by decide +kernel
theorem d79_12 : decode (cod 79) 12 = .ok (.if_icmp .ne 16, 3) := by decide +kernel
theorem d79_15 : decode (cod 79) 15 = .ok (.aload_n 0, 1) := by decide +kernel
theorem d79_16 : decode (cod 79) 16 = .ok (.dup, 1) := by decide +kernel
theorem d79_17 : decode (cod 79) 17 = .ok (.getfield 15, 3) := by decide +kernel
theorem d79_20 : decode (cod 79) 20 = .ok (.iconst 1, 1) := by decide +kernel
theorem d79_21 : decode (cod 79) 21 = .ok (.iadd, 1) := by decide +kernel
theorem d79_22 : decode (cod 79) 22 = .ok (.putfield 15, 3) := by decide +kernel
theorem d79_25 : decode (cod 79) 25 = .ok (.goto 8, 3) := by decide +kernel
theorem d79_28 : decode (cod 79) 28 = .ok (.aload_n 0, 1) := by decide +kernel
theorem d79_29 : decode (cod 79) 29 = .ok (.iconst 1, 1) := by decide +kernel
theorem d79_30 : decode (cod 79) 30 = .ok (.putfield 21, 3) := by decide +kernel
theorem d79_33 : decode (cod 79) 33 = .ok (.return_, 1) := by decide +kernel
theorem d80_0 : decode (cod 80) 0 = .ok (.aload_n 0, 1) := by decide +kernel
theorem d80_1 : decode (cod 80) 1 = .ok (.getfield 21, 3) := by decide +kernel
theorem d80_4 : decode (cod 80) 4 = .ok (.ifCond .ne 40, 3) := by decide +kernel
theorem d80_7 : decode (cod 80) 7 = .ok (.aload_n 0, 1) := by decide +kernel
theorem d80_8 : decode (cod 80) 8 = .ok (.getfield 18, 3) := by decide +kernel
theorem d80_11 : decode (cod 80) 11 = .ok (.ifCond .lt 33, 3) := by decide +kernel
theorem d80_14 : decode (cod 80) 14 = .ok (.aload_n 0, 1) := by decide +kernel
theorem d80_15 : decode (cod 80) 15 = .ok (.getfield 18, 3) := by decide +kernel
theorem d80_18 : decode (cod 80) 18 = .ok (.sipush 1320, 3) := by decide +kernel
theorem d80_21 : decode (cod 80) 21 = .ok (.if_icmp .ge 23, 3) := by decide +kernel
theorem d80_24 : decode (cod 80) 24 = .ok (.aload_n 0, 1) := by decide +kernel
theorem d80_25 : decode (cod 80) 25 = .ok (.getfield 25, 3) := by decide +kernel
theorem d80_28 : decode (cod 80) 28 = .ok (.aload_n 0, 1) := by decide +kernel
theorem d80_29 : decode (cod 80) 29 = .ok (.getfield 18, 3) := by decide +kernel
theorem d80_32 : decode (cod 80) 32 = .ok (.iload_n 1, 1) := by decide +kernel
theorem d80_33 : decode (cod 80) 33 = .ok (.iastore, 1) := by decide +kernel
theorem d80_34 : decode (cod 80) 34 = .ok (.aload_n 0, 1) := by decide +kernel
theorem d80_35 : decode (cod 80) 35 = .ok (.dup, 1) := by decide +kernel
theorem d80_36 : decode (cod 80) 36 = .ok (.getfield 18, 3) := by decide +kernel
theorem d80_39 : decode (cod 80) 39 = .ok (.iconst 1, 1) := by decide +kernel
theorem d80_40 : decode (cod 80) 40 = .ok (.iadd, 1) := by decide +kernel
theorem d80_41 : decode (cod 80) 41 = .ok (.putfield 18, 3) := by decide +kernel
theorem d80_44 : decode (cod 80) 44 = .ok (.return_, 1) := by decide +kernel
theorem d81_0 : decode (cod 81) 0 = .ok (.iconst 0, 1) := by decide +kernel
theorem d81_1 : decode (cod 81) 1 = .ok (.istore_n 1, 1) := by decide +kernel
theorem d81_2 : decode (cod 81) 2 = .ok (.iload_n 1, 1) := by decide +kernel
theorem d81_3 : decode (cod 81) 3 = .ok (.bipush 7, 2) := by decide +kernel
theorem d81_5 : decode (cod 81) 5 = .ok (.if_icmp .ge 56, 3) := by decide +kernel
theorem d81_8 : decode (cod 81) 8 = .ok (.iload_n 1, 1) := by decide +kernel
theorem d81_9 : decode (cod 81) 9 = .ok (.invokestatic 43, 3) := by decide +kernel
theorem d81_12 : decode (cod 81) 12 = .ok (.astore_n 2, 1) := by decide +kernel
theorem d81_13 : decode (cod 81) 13 = .ok (.aload_n 2, 1) := by decide +kernel
theorem d81_14 : decode (cod 81) 14 = .ok (.iconst 0, 1) := by decide +kernel
theorem d81_15 : decode (cod 81) 15 = .ok (.invokevirtual 47, 3) := by decide +kernel
theorem d81_18 : decode (cod 81) 18 = .ok (.aload_n 0, 1) := by decide +kernel
theorem d81_19 : decode (cod 81) 19 = .ok (.invokevirtual 39, 3) := by decide +kernel
theorem d81_22 : decode (cod 81) 22 = .ok (.if_icmp .eq 6, 3) := by decide +kernel
theorem d81_25 : decode (cod 81) 25 = .ok (.goto 30, 3) := by decide +kernel
theorem d81_28 : decode (cod 81) 28 = .ok (.iconst 0, 1) := by decide +kernel
theorem d81_29 : decode (cod 81) 29 = .ok (.istore_n 3, 1) := by decide +kernel
theorem d81_30 : decode (cod 81) 30 = .ok (.iload_n 3, 1) := by decide +kernel
theorem d81_31 : decode (cod 81) 31 = .ok (.aload_n 2, 1) := by decide +kernel
theorem d81_32 : decode (cod 81) 32 = .ok (.invokevirtual 53, 3) := by decide +kernel
theorem d81_35 : decode (cod 81) 35 = .ok (.if_icmp .ge 18, 3) := by decide +kernel
theorem d81_38 : decode (cod 81) 38 = .ok (.aload_n 0, 1) := by decide +kernel
theorem d81_39 : decode (cod 81) 39 = .ok (.aload_n 2, 1) := by decide +kernel
theorem d81_40 : decode (cod 81) 40 = .ok (.iload_n 3, 1) := by decide +kernel
theorem d81_41 : decode (cod 81) 41 = .ok (.invokevirtual 47, 3) := by decide +kernel
theorem d81_44 : decode (cod 81) 44 = .ok (.invokevirtual 56, 3) := by decide +kernel
theorem d81_47 : decode (cod 81) 47 = .ok (.iinc 3 1, 3) := by decide +kernel
theorem d81_50 : decode (cod 81) 50 = .ok (.goto (-20), 3) := by decide +kernel
theorem d81_53 : decode (cod 81) 53 = .ok (.iload_n 1, 1) := by decide +kernel
theorem d81_54 : decode (cod 81) 54 = .ok (.ireturn, 1) := by decide +kernel
theorem d81_55 : decode (cod 81) 55 = .ok (.iinc 1 1, 3) := by decide +kernel
theorem d81_58 : decode (cod 81) 58 = .ok (.goto (-56), 3) := by decide +kernel
theorem d81_61 : decode (cod 81) 61 = .ok (.aload_n 0, 1) := by decide +kernel
theorem d81_62 : decode (cod 81) 62 = .ok (.iconst 1, 1) := by decide +kernel
theorem d81_63 : decode (cod 81) 63 = .ok (.putfield 21, 3) := by decide +kernel
theorem d81_66 : decode (cod 81) 66 = .ok (.iconst (-1), 1) := by decide +kernel
theorem d81_67 : decode (cod 81) 67 = .ok (.ireturn, 1) := by decide +kernel
theorem d82_0 : decode (cod 82) 0 = .ok (.iload_n 0, 1) := by decide +kernel
theorem d82_1 : decode (cod 82) 1 = .ok (.tableswitch 57 0 5 #[39, 42, 45, 48, 51, 54], 39) := by decide +kernel
theorem d82_40 : decode (cod 82) 40 = .ok (.ldc 60, 2) := by decide +kernel
theorem d82_42 : decode (cod 82) 42 = .ok (.areturn, 1) := by decide +kernel
theorem d82_43 : decode (cod 82) 43 = .ok (.ldc 62, 2) := by decide +kernel
theorem d82_45 : decode (cod 82) 45 = .ok (.areturn, 1) := by decide +kernel
theorem d82_46 : decode (cod 82) 46 = .ok (.ldc 64, 2) := by decide +kernel
theorem d82_48 : decode (cod 82) 48 = .ok (.areturn, 1) := by decide +kernel
theorem d82_49 : decode (cod 82) 49 = .ok (.ldc 66, 2) := by decide +kernel
theorem d82_51 : decode (cod 82) 51 = .ok (.areturn, 1) := by decide +kernel
theorem d82_52 : decode (cod 82) 52 = .ok (.ldc 68, 2) := by decide +kernel
theorem d82_54 : decode (cod 82) 54 = .ok (.areturn, 1) := by decide +kernel
theorem d82_55 : decode (cod 82) 55 = .ok (.ldc 70, 2) := by decide +kernel
theorem d82_57 : decode (cod 82) 57 = .ok (.areturn, 1) := by decide +kernel
theorem d82_58 : decode (cod 82) 58 = .ok (.ldc 72, 2) := by decide +kernel
theorem d82_60 : decode (cod 82) 60 = .ok (.areturn, 1) := by decide +kernel
theorem d83_0 : decode (cod 83) 0 = .ok (.iconst 0, 1) := by decide +kernel
theorem d83_1 : decode (cod 83) 1 = .ok (.istore_n 1, 1) := by decide +kernel
theorem d83_2 : decode (cod 83) 2 = .ok (.iconst 0, 1) := by decide +kernel
theorem d83_3 : decode (cod 83) 3 = .ok (.istore_n 2, 1) := by decide +kernel
theorem d83_4 : decode (cod 83) 4 = .ok (.aload_n 0, 1) := by decide +kernel
theorem d83_5 : decode (cod 83) 5 = .ok (.invokevirtual 39, 3) := by decide +kernel
theorem d83_8 : decode (cod 83) 8 = .ok (.istore_n 3, 1) := by decide +kernel
theorem d83_9 : decode (cod 83) 9 = .ok (.aload_n 0, 1) := by decide +kernel
theorem d83_10 : decode (cod 83) 10 = .ok (.getfield 21, 3) := by decide +kernel
theorem d83_13 : decode (cod 83) 13 = .ok (.ifCond .ne 63, 3) := by decide +kernel
theorem d83_16 : decode (cod 83) 16 = .ok (.iload_n 2, 1) := by decide +kernel
theorem d83_17 : decode (cod 83) 17 = .ok (.iconst 3, 1) := by decide +kernel
theorem d83_18 : decode (cod 83) 18 = .ok (.if_icmp .ge 58, 3) := by decide +kernel
theorem d83_21 : decode (cod 83) 21 = .ok (.iload_n 3, 1) := by decide +kernel
theorem d83_22 : decode (cod 83) 22 = .ok (.bipush 48, 2) := by decide +kernel
theorem d83_24 : decode (cod 83) 24 = .ok (.if_icmp .lt 52, 3) := by decide +kernel
theorem d83_27 : decode (cod 83) 27 = .ok (.iload_n 3, 1) := by decide +kernel
theorem d83_28 : decode (cod 83) 28 = .ok (.bipush 57, 2) := by decide +kernel
theorem d83_30 : decode (cod 83) 30 = .ok (.if_icmp .gt 46, 3) := by decide +kernel
theorem d83_33 : decode (cod 83) 33 = .ok (.iload_n 2, 1) := by decide +kernel
theorem d83_34 : decode (cod 83) 34 = .ok (.iconst 1, 1) := by decide +kernel
theorem d83_35 : decode (cod 83) 35 = .ok (.if_icmp .ne 10, 3) := by decide +kernel
theorem d83_38 : decode (cod 83) 38 = .ok (.iload_n 1, 1) := by decide +kernel
theorem d83_39 : decode (cod 83) 39 = .ok (.ifCond .ne 6, 3) := by decide +kernel
theorem d83_42 : decode (cod 83) 42 = .ok (.goto 34, 3) := by decide +kernel
theorem d83_45 : decode (cod 83) 45 = .ok (.bipush 10, 2) := by decide +kernel
theorem d83_47 : decode (cod 83) 47 = .ok (.iload_n 1, 1) := by decide +kernel
theorem d83_48 : decode (cod 83) 48 = .ok (.imul, 1) := by decide +kernel
theorem d83_49 : decode (cod 83) 49 = .ok (.iload_n 3, 1) := by decide +kernel
theorem d83_50 : decode (cod 83) 50 = .ok (.iadd, 1) := by decide +kernel
theorem d83_51 : decode (cod 83) 51 = .ok (.bipush 48, 2) := by decide +kernel
theorem d83_53 : decode (cod 83) 53 = .ok (.isub, 1) := by decide +kernel
theorem d83_54 : decode (cod 83) 54 = .ok (.istore_n 1, 1) := by decide +kernel
theorem d83_55 : decode (cod 83) 55 = .ok (.iinc 2 1, 3) := by decide +kernel
theorem d83_58 : decode (cod 83) 58 = .ok (.aload_n 0, 1) := by decide +kernel
theorem d83_59 : decode (cod 83) 59 = .ok (.dup, 1) := by decide +kernel
theorem d83_60 : decode (cod 83) 60 = .ok (.getfield 15, 3) := by decide +kernel
theorem d83_63 : decode (cod 83) 63 = .ok (.iconst 1, 1) := by decide +kernel
theorem d83_64 : decode (cod 83) 64 = .ok (.iadd, 1) := by decide +kernel
theorem d83_65 : decode (cod 83) 65 = .ok (.putfield 15, 3) := by decide +kernel
theorem d83_68 : decode (cod 83) 68 = .ok (.aload_n 0, 1) := by decide +kernel
theorem d83_69 : decode (cod 83) 69 = .ok (.invokevirtual 39, 3) := by decide +kernel
theorem d83_72 : decode (cod 83) 72 = .ok (.istore_n 3, 1) := by decide +kernel
theorem d83_73 : decode (cod 83) 73 = .ok (.goto (-64), 3) := by decide +kernel
theorem d83_76 : decode (cod 83) 76 = .ok (.iload_n 2, 1) := by decide +kernel
theorem d83_77 : decode (cod 83) 77 = .ok (.ifCond .ne 8, 3) := by decide +kernel
theorem d83_80 : decode (cod 83) 80 = .ok (.aload_n 0, 1) := by decide +kernel
theorem d83_81 : decode (cod 83) 81 = .ok (.iconst 1, 1) := by decide +kernel
theorem d83_82 : decode (cod 83) 82 = .ok (.putfield 21, 3) := by decide +kernel
theorem d83_85 : decode (cod 83) 85 = .ok (.iload_n 1, 1) := by decide +kernel
theorem d83_86 : decode (cod 83) 86 = .ok (.ireturn, 1) := by decide +kernel
theorem d84_0 : decode (cod 84) 0 = .ok (.aload_n 0, 1) := by decide +kernel
theorem d84_1 : decode (cod 84) 1 = .ok (.iload_n 1, 1) := by decide +kernel
theorem d84_2 : decode (cod 84) 2 = .ok (.invokevirtual 74, 3) := by decide +kernel
theorem d84_5 : decode (cod 84) 5 = .ok (.aload_n 0, 1) := by decide +kernel
theorem d84_6 : decode (cod 84) 6 = .ok (.getfield 15, 3) := by decide +kernel
theorem d84_9 : decode (cod 84) 9 = .ok (.istore_n 2, 1) := by decide +kernel
theorem d84_10 : decode (cod 84) 10 = .ok (.iload_n 2, 1) := by decide +kernel
theorem d84_11 : decode (cod 84) 11 = .ok (.aload_n 0, 1) := by decide +kernel
theorem d84_12 : decode (cod 84) 12 = .ok (.getfield 9, 3) := by decide +kernel
theorem d84_15 : decode (cod 84) 15 = .ok (.if_icmp .ge 46, 3) := by decide +kernel
theorem d84_18 : decode (cod 84) 18 = .ok (.aload_n 0, 1) := by decide +kernel
theorem d84_19 : decode (cod 84) 19 = .ok (.getfield 21, 3) := by decide +kernel
theorem d84_22 : decode (cod 84) 22 = .ok (.ifCond .ne 39, 3) := by decide +kernel
theorem d84_25 : decode (cod 84) 25 = .ok (.aload_n 0, 1) := by decide +kernel
theorem d84_26 : decode (cod 84) 26 = .ok (.invokevirtual 39, 3) := by decide +kernel
theorem d84_29 : decode (cod 84) 29 = .ok (.bipush 124, 2) := by decide +kernel
theorem d84_31 : decode (cod 84) 31 = .ok (.if_icmp .ne 30, 3) := by decide +kernel
theorem d84_34 : decode (cod 84) 34 = .ok (.aload_n 0, 1) := by decide +kernel
theorem d84_35 : decode (cod 84) 35 = .ok (.dup, 1) := by decide +kernel
theorem d84_36 : decode (cod 84) 36 = .ok (.getfield 15, 3) := by decide +kernel
theorem d84_39 : decode (cod 84) 39 = .ok (.iconst 1, 1) := by decide +kernel
theorem d84_40 : decode (cod 84) 40 = .ok (.iadd, 1) := by decide +kernel
theorem d84_41 : decode (cod 84) 41 = .ok (.putfield 15, 3) := by decide +kernel
theorem d84_44 : decode (cod 84) 44 = .ok (.aload_n 0, 1) := by decide +kernel
theorem d84_45 : decode (cod 84) 45 = .ok (.iload_n 1, 1) := by decide +kernel
theorem d84_46 : decode (cod 84) 46 = .ok (.invokevirtual 74, 3) := by decide +kernel
theorem d84_49 : decode (cod 84) 49 = .ok (.aload_n 0, 1) := by decide +kernel
theorem d84_50 : decode (cod 84) 50 = .ok (.bipush (-3), 2) := by decide +kernel
theorem d84_52 : decode (cod 84) 52 = .ok (.invokevirtual 77, 3) := by decide +kernel
theorem d84_55 : decode (cod 84) 55 = .ok (.iinc 2 1, 3) := by decide +kernel
theorem d84_58 : decode (cod 84) 58 = .ok (.goto (-48), 3) := by decide +kernel
theorem d84_61 : decode (cod 84) 61 = .ok (.return_, 1) := by decide +kernel
theorem d85_0 : decode (cod 85) 0 = .ok (.aload_n 0, 1) := by decide +kernel
theorem d85_1 : decode (cod 85) 1 = .ok (.iload_n 1, 1) := by decide +kernel
theorem d85_2 : decode (cod 85) 2 = .ok (.invokevirtual 80, 3) := by decide +kernel
theorem d85_5 : decode (cod 85) 5 = .ok (.aload_n 0, 1) := by decide +kernel
theorem d85_6 : decode (cod 85) 6 = .ok (.getfield 15, 3) := by decide +kernel
theorem d85_9 : decode (cod 85) 9 = .ok (.istore_n 2, 1) := by decide +kernel
theorem d85_10 : decode (cod 85) 10 = .ok (.iload_n 2, 1) := by decide +kernel
theorem d85_11 : decode (cod 85) 11 = .ok (.aload_n 0, 1) := by decide +kernel
theorem d85_12 : decode (cod 85) 12 = .ok (.getfield 9, 3) := by decide +kernel
theorem d85_15 : decode (cod 85) 15 = .ok (.if_icmp .ge 46, 3) := by decide +kernel
theorem d85_18 : decode (cod 85) 18 = .ok (.aload_n 0, 1) := by decide +kernel
theorem d85_19 : decode (cod 85) 19 = .ok (.getfield 21, 3) := by decide +kernel
theorem d85_22 : decode (cod 85) 22 = .ok (.ifCond .ne 39, 3) := by decide +kernel
theorem d85_25 : decode (cod 85) 25 = .ok (.aload_n 0, 1) := by decide +kernel
theorem d85_26 : decode (cod 85) 26 = .ok (.invokevirtual 39, 3) := by decide +kernel
theorem d85_29 : decode (cod 85) 29 = .ok (.bipush 38, 2) := by decide +kernel
theorem d85_31 : decode (cod 85) 31 = .ok (.if_icmp .ne 30, 3) := by decide +kernel
theorem d85_34 : decode (cod 85) 34 = .ok (.aload_n 0, 1) := by decide +kernel
theorem d85_35 : decode (cod 85) 35 = .ok (.dup, 1) := by decide +kernel
theorem d85_36 : decode (cod 85) 36 = .ok (.getfield 15, 3) := by decide +kernel
theorem d85_39 : decode (cod 85) 39 = .ok (.iconst 1, 1) := by decide +kernel
theorem d85_40 : decode (cod 85) 40 = .ok (.iadd, 1) := by decide +kernel
theorem d85_41 : decode (cod 85) 41 = .ok (.putfield 15, 3) := by decide +kernel
theorem d85_44 : decode (cod 85) 44 = .ok (.aload_n 0, 1) := by decide +kernel
theorem d85_45 : decode (cod 85) 45 = .ok (.iload_n 1, 1) := by decide +kernel
theorem d85_46 : decode (cod 85) 46 = .ok (.invokevirtual 80, 3) := by decide +kernel
theorem d85_49 : decode (cod 85) 49 = .ok (.aload_n 0, 1) := by decide +kernel
theorem d85_50 : decode (cod 85) 50 = .ok (.bipush (-2), 2) := by decide +kernel
theorem d85_52 : decode (cod 85) 52 = .ok (.invokevirtual 77, 3) := by decide +kernel
theorem d85_55 : decode (cod 85) 55 = .ok (.iinc 2 1, 3) := by decide +kernel
theorem d85_58 : decode (cod 85) 58 = .ok (.goto (-48), 3) := by decide +kernel
theorem d85_61 : decode (cod 85) 61 = .ok (.return_, 1) := by decide +kernel
theorem d86_0 : decode (cod 86) 0 = .ok (.aload_n 0, 1) := by decide +kernel
theorem d86_1 : decode (cod 86) 1 = .ok (.getfield 21, 3) := by decide +kernel
theorem d86_4 : decode (cod 86) 4 = .ok (.ifCond .eq 7, 3) := by decide +kernel
theorem d86_7 : decode (cod 86) 7 = .ok (.iconst (-1), 1) := by decide +kernel
theorem d86_8 : decode (cod 86) 8 = .ok (.goto 7, 3) := by decide +kernel
theorem d86_11 : decode (cod 86) 11 = .ok (.aload_n 0, 1) := by decide +kernel
theorem d86_12 : decode (cod 86) 12 = .ok (.invokevirtual 39, 3) := by decide +kernel
theorem d86_15 : decode (cod 86) 15 = .ok (.istore_n 2, 1) := by decide +kernel
theorem d86_16 : decode (cod 86) 16 = .ok (.iload_n 2, 1) := by decide +kernel
theorem d86_17 : decode (cod 86) 17 = .ok (.invokestatic 83, 3) := by decide +kernel
theorem d86_20 : decode (cod 86) 20 = .ok (.istore_n 3, 1) := by decide +kernel
theorem d86_21 : decode (cod 86) 21 = .ok (.iload_n 2, 1) := by decide +kernel
theorem d86_22 : decode (cod 86) 22 = .ok (.bipush 33, 2) := by decide +kernel
theorem d86_24 : decode (cod 86) 24 = .ok (.if_icmp .ne 33, 3) := by decide +kernel
theorem d86_27 : decode (cod 86) 27 = .ok (.iload_n 1, 1) := by decide +kernel
theorem d86_28 : decode (cod 86) 28 = .ok (.iconst 5, 1) := by decide +kernel
theorem d86_29 : decode (cod 86) 29 = .ok (.if_icmp .ge 28, 3) := by decide +kernel
theorem d86_32 : decode (cod 86) 32 = .ok (.aload_n 0, 1) := by decide +kernel
theorem d86_33 : decode (cod 86) 33 = .ok (.dup, 1) := by decide +kernel
theorem d86_34 : decode (cod 86) 34 = .ok (.getfield 15, 3) := by decide +kernel
theorem d86_37 : decode (cod 86) 37 = .ok (.iconst 1, 1) := by decide +kernel
theorem d86_38 : decode (cod 86) 38 = .ok (.iadd, 1) := by decide +kernel
theorem d86_39 : decode (cod 86) 39 = .ok (.putfield 15, 3) := by decide +kernel
theorem d86_42 : decode (cod 86) 42 = .ok (.aload_n 0, 1) := by decide +kernel
theorem d86_43 : decode (cod 86) 43 = .ok (.iload_n 1, 1) := by decide +kernel
theorem d86_44 : decode (cod 86) 44 = .ok (.iconst 1, 1) := by decide +kernel
theorem d86_45 : decode (cod 86) 45 = .ok (.iadd, 1) := by decide +kernel
theorem d86_46 : decode (cod 86) 46 = .ok (.invokevirtual 80, 3) := by decide +kernel
theorem d86_49 : decode (cod 86) 49 = .ok (.aload_n 0, 1) := by decide +kernel
theorem d86_50 : decode (cod 86) 50 = .ok (.iconst (-1), 1) := by decide +kernel
theorem d86_51 : decode (cod 86) 51 = .ok (.invokevirtual 77, 3) := by decide +kernel
theorem d86_54 : decode (cod 86) 54 = .ok (.goto 118, 3) := by decide +kernel
theorem d86_57 : decode (cod 86) 57 = .ok (.iload_n 2, 1) := by decide +kernel
theorem d86_58 : decode (cod 86) 58 = .ok (.bipush 40, 2) := by decide +kernel
theorem d86_60 : decode (cod 86) 60 = .ok (.if_icmp .ne 34, 3) := by decide +kernel
theorem d86_63 : decode (cod 86) 63 = .ok (.iload_n 1, 1) := by decide +kernel
theorem d86_64 : decode (cod 86) 64 = .ok (.iconst 5, 1) := by decide +kernel
theorem d86_65 : decode (cod 86) 65 = .ok (.if_icmp .ge 29, 3) := by decide +kernel
theorem d86_68 : decode (cod 86) 68 = .ok (.aload_n 0, 1) := by decide +kernel
theorem d86_69 : decode (cod 86) 69 = .ok (.dup, 1) := by decide +kernel
theorem d86_70 : decode (cod 86) 70 = .ok (.getfield 15, 3) := by decide +kernel
theorem d86_73 : decode (cod 86) 73 = .ok (.iconst 1, 1) := by decide +kernel
theorem d86_74 : decode (cod 86) 74 = .ok (.iadd, 1) := by decide +kernel
theorem d86_75 : decode (cod 86) 75 = .ok (.putfield 15, 3) := by decide +kernel
theorem d86_78 : decode (cod 86) 78 = .ok (.aload_n 0, 1) := by decide +kernel
theorem d86_79 : decode (cod 86) 79 = .ok (.iload_n 1, 1) := by decide +kernel
theorem d86_80 : decode (cod 86) 80 = .ok (.iconst 1, 1) := by decide +kernel
theorem d86_81 : decode (cod 86) 81 = .ok (.iadd, 1) := by decide +kernel
theorem d86_82 : decode (cod 86) 82 = .ok (.invokevirtual 87, 3) := by decide +kernel
theorem d86_85 : decode (cod 86) 85 = .ok (.aload_n 0, 1) := by decide +kernel
theorem d86_86 : decode (cod 86) 86 = .ok (.bipush 41, 2) := by decide +kernel
theorem d86_88 : decode (cod 86) 88 = .ok (.invokevirtual 56, 3) := by decide +kernel
theorem d86_91 : decode (cod 86) 91 = .ok (.goto 81, 3) := by decide +kernel
theorem d86_94 : decode (cod 86) 94 = .ok (.iload_n 3, 1) := by decide +kernel
theorem d86_95 : decode (cod 86) 95 = .ok (.ifCond .lt 72, 3) := by decide +kernel
theorem d86_98 : decode (cod 86) 98 = .ok (.aload_n 0, 1) := by decide +kernel
theorem d86_99 : decode (cod 86) 99 = .ok (.dup, 1) := by decide +kernel
theorem d86_100 : decode (cod 86) 100 = .ok (.getfield 15, 3) := by decide +kernel
theorem d86_103 : decode (cod 86) 103 = .ok (.iconst 1, 1) := by decide +kernel
theorem d86_104 : decode (cod 86) 104 = .ok (.iadd, 1) := by decide +kernel
theorem d86_105 : decode (cod 86) 105 = .ok (.putfield 15, 3) := by decide +kernel
theorem d86_108 : decode (cod 86) 108 = .ok (.iload_n 3, 1) := by decide +kernel
theorem d86_109 : decode (cod 86) 109 = .ok (.iconst 4, 1) := by decide +kernel
theorem d86_110 : decode (cod 86) 110 = .ok (.if_icmp .ne 14, 3) := by decide +kernel
theorem d86_113 : decode (cod 86) 113 = .ok (.aload_n 0, 1) := by decide +kernel
theorem d86_114 : decode (cod 86) 114 = .ok (.invokevirtual 39, 3) := by decide +kernel
theorem d86_117 : decode (cod 86) 117 = .ok (.bipush 62, 2) := by decide +kernel
theorem d86_119 : decode (cod 86) 119 = .ok (.if_icmp .ne 5, 3) := by decide +kernel
theorem d86_122 : decode (cod 86) 122 = .ok (.iconst 5, 1) := by decide +kernel
theorem d86_123 : decode (cod 86) 123 = .ok (.istore_n 3, 1) := by decide +kernel
theorem d86_124 : decode (cod 86) 124 = .ok (.aload_n 0, 1) := by decide +kernel
theorem d86_125 : decode (cod 86) 125 = .ok (.iload_n 3, 1) := by decide +kernel
theorem d86_126 : decode (cod 86) 126 = .ok (.iconst 4, 1) := by decide +kernel
theorem d86_127 : decode (cod 86) 127 = .ok (.if_icmp .ne 8, 3) := by decide +kernel
theorem d86_130 : decode (cod 86) 130 = .ok (.bipush 60, 2) := by decide +kernel
theorem d86_132 : decode (cod 86) 132 = .ok (.goto 15, 3) := by decide +kernel
theorem d86_135 : decode (cod 86) 135 = .ok (.iload_n 3, 1) := by decide +kernel
theorem d86_136 : decode (cod 86) 136 = .ok (.iconst 5, 1) := by decide +kernel
theorem d86_137 : decode (cod 86) 137 = .ok (.if_icmp .ne 8, 3) := by decide +kernel
theorem d86_140 : decode (cod 86) 140 = .ok (.bipush 62, 2) := by decide +kernel
theorem d86_142 : decode (cod 86) 142 = .ok (.goto 5, 3) := by decide +kernel
theorem d86_145 : decode (cod 86) 145 = .ok (.bipush 61, 2) := by decide +kernel
theorem d86_147 : decode (cod 86) 147 = .ok (.invokevirtual 56, 3) := by decide +kernel
theorem d86_150 : decode (cod 86) 150 = .ok (.aload_n 0, 1) := by decide +kernel
theorem d86_151 : decode (cod 86) 151 = .ok (.sipush 1000, 3) := by decide +kernel
theorem d86_154 : decode (cod 86) 154 = .ok (.iload_n 3, 1) := by decide +kernel
theorem d86_155 : decode (cod 86) 155 = .ok (.imul, 1) := by decide +kernel
theorem d86_156 : decode (cod 86) 156 = .ok (.aload_n 0, 1) := by decide +kernel
theorem d86_157 : decode (cod 86) 157 = .ok (.invokevirtual 90, 3) := by decide +kernel
theorem d86_160 : decode (cod 86) 160 = .ok (.iadd, 1) := by decide +kernel
theorem d86_161 : decode (cod 86) 161 = .ok (.invokevirtual 77, 3) := by decide +kernel
theorem d86_164 : decode (cod 86) 164 = .ok (.goto 8, 3) := by decide +kernel
theorem d86_167 : decode (cod 86) 167 = .ok (.aload_n 0, 1) := by decide +kernel
theorem d86_168 : decode (cod 86) 168 = .ok (.iconst 1, 1) := by decide +kernel
theorem d86_169 : decode (cod 86) 169 = .ok (.putfield 21, 3) := by decide +kernel
theorem d86_172 : decode (cod 86) 172 = .ok (.return_, 1) := by decide +kernel
theorem d87_0 : decode (cod 87) 0 = .ok (.iload_n 0, 1) := by decide +kernel
theorem d87_1 : decode (cod 87) 1 = .ok (.tableswitch 53 102 108 #[47, 49, 51, 53, 53, 43, 45], 43) := by decide +kernel
theorem d87_44 : decode (cod 87) 44 = .ok (.iconst 0, 1) := by decide +kernel
theorem d87_45 : decode (cod 87) 45 = .ok (.ireturn, 1) := by decide +kernel
theorem d87_46 : decode (cod 87) 46 = .ok (.iconst 1, 1) := by decide +kernel
theorem d87_47 : decode (cod 87) 47 = .ok (.ireturn, 1) := by decide +kernel
theorem d87_48 : decode (cod 87) 48 = .ok (.iconst 2, 1) := by decide +kernel
theorem d87_49 : decode (cod 87) 49 = .ok (.ireturn, 1) := by decide +kernel
theorem d87_50 : decode (cod 87) 50 = .ok (.iconst 3, 1) := by decide +kernel
theorem d87_51 : decode (cod 87) 51 = .ok (.ireturn, 1) := by decide +kernel
theorem d87_52 : decode (cod 87) 52 = .ok (.iconst 4, 1) := by decide +kernel
theorem d87_53 : decode (cod 87) 53 = .ok (.ireturn, 1) := by decide +kernel
theorem d87_54 : decode (cod 87) 54 = .ok (.iconst (-1), 1) := by decide +kernel
theorem d87_55 : decode (cod 87) 55 = .ok (.ireturn, 1) := by decide +kernel
theorem d88_0 : decode (cod 88) 0 = .ok (.aload_n 0, 1) := by decide +kernel
theorem d88_1 : decode (cod 88) 1 = .ok (.invokespecial 3, 3) := by decide +kernel
theorem d88_4 : decode (cod 88) 4 = .ok (.aload_n 0, 1) := by decide +kernel
theorem d88_5 : decode (cod 88) 5 = .ok (.lconst 0, 1) := by decide +kernel
theorem d88_6 : decode (cod 88) 6 = .ok (.putfield 9, 3) := by decide +kernel
theorem d88_9 : decode (cod 88) 9 = .ok (.aload_n 0, 1) := by decide +kernel
theorem d88_10 : decode (cod 88) 10 = .ok (.iconst 0, 1) := by decide +kernel
theorem d88_11 : decode (cod 88) 11 = .ok (.putfield 15, 3) := by decide +kernel
theorem d88_14 : decode (cod 88) 14 = .ok (.aload_n 0, 1) := by decide +kernel
theorem d88_15 : decode (cod 88) 15 = .ok (.iconst 0, 1) := by decide +kernel
theorem d88_16 : decode (cod 88) 16 = .ok (.putfield 19, 3) := by decide +kernel
theorem d88_19 : decode (cod 88) 19 = .ok (.aload_n 0, 1) := by decide +kernel
theorem d88_20 : decode (cod 88) 20 = .ok (.iconst 0, 1) := by decide +kernel
theorem d88_21 : decode (cod 88) 21 = .ok (.putfield 22, 3) := by decide +kernel
theorem d88_24 : decode (cod 88) 24 = .ok (.aload_n 0, 1) := by decide +kernel
theorem d88_25 : decode (cod 88) 25 = .ok (.iconst 0, 1) := by decide +kernel
theorem d88_26 : decode (cod 88) 26 = .ok (.putfield 25, 3) := by decide +kernel
theorem d88_29 : decode (cod 88) 29 = .ok (.aload_n 0, 1) := by decide +kernel
theorem d88_30 : decode (cod 88) 30 = .ok (.iconst 0, 1) := by decide +kernel
theorem d88_31 : decode (cod 88) 31 = .ok (.putfield 28, 3) := by decide +kernel
theorem d88_34 : decode (cod 88) 34 = .ok (.aload_n 0, 1) := by decide +kernel
theorem d88_35 : decode (cod 88) 35 = .ok (.bipush 20, 2) := by decide +kernel
theorem d88_37 : decode (cod 88) 37 = .ok (.newarray .long, 2) := by decide +kernel
theorem d88_39 : decode (cod 88) 39 = .ok (.putfield 31, 3) := by decide +kernel
theorem d88_42 : decode (cod 88) 42 = .ok (.aload_n 0, 1) := by decide +kernel
theorem d88_43 : decode (cod 88) 43 = .ok (.bipush 10, 2) := by decide +kernel
theorem d88_45 : decode (cod 88) 45 = .ok (.newarray .int, 2) := by decide +kernel
theorem d88_47 : decode (cod 88) 47 = .ok (.putfield 35, 3) := by decide +kernel
theorem d88_50 : decode (cod 88) 50 = .ok (.aload_n 0, 1) := by decide +kernel
theorem d88_51 : decode (cod 88) 51 = .ok (.bipush 20, 2) := by decide +kernel
theorem d88_53 : decode (cod 88) 53 = .ok (.newarray .int, 2) := by decide +kernel
theorem d88_55 : decode (cod 88) 55 = .ok (.putfield 39, 3) := by decide +kernel
theorem d88_58 : decode (cod 88) 58 = .ok (.return_, 1) := by decide +kernel
theorem d89_0 : decode (cod 89) 0 = .ok (.aload_n 0, 1) := by decide +kernel
theorem d89_1 : decode (cod 89) 1 = .ok (.aload_n 1, 1) := by decide +kernel
theorem d89_2 : decode (cod 89) 2 = .ok (.getfield 9, 3) := by decide +kernel
theorem d89_5 : decode (cod 89) 5 = .ok (.putfield 9, 3) := by decide +kernel
theorem d89_8 : decode (cod 89) 8 = .ok (.aload_n 0, 1) := by decide +kernel
theorem d89_9 : decode (cod 89) 9 = .ok (.aload_n 1, 1) := by decide +kernel
theorem d89_10 : decode (cod 89) 10 = .ok (.getfield 15, 3) := by decide +kernel
theorem d89_13 : decode (cod 89) 13 = .ok (.putfield 15, 3) := by decide +kernel
theorem d89_16 : decode (cod 89) 16 = .ok (.aload_n 0, 1) := by decide +kernel
theorem d89_17 : decode (cod 89) 17 = .ok (.aload_n 1, 1) := by decide +kernel
theorem d89_18 : decode (cod 89) 18 = .ok (.getfield 19, 3) := by decide +kernel
theorem d89_21 : decode (cod 89) 21 = .ok (.putfield 19, 3) := by decide +kernel
theorem d89_24 : decode (cod 89) 24 = .ok (.aload_n 0, 1) := by decide +kernel
theorem d89_25 : decode (cod 89) 25 = .ok (.aload_n 1, 1) := by decide +kernel
theorem d89_26 : decode (cod 89) 26 = .ok (.getfield 28, 3) := by decide +kernel
theorem d89_29 : decode (cod 89) 29 = .ok (.putfield 28, 3) := by decide +kernel
theorem d89_32 : decode (cod 89) 32 = .ok (.aload_n 1, 1) := by decide +kernel
theorem d89_33 : decode (cod 89) 33 = .ok (.getfield 31, 3) := by decide +kernel
theorem d89_36 : decode (cod 89) 36 = .ok (.iconst 0, 1) := by decide +kernel
theorem d89_37 : decode (cod 89) 37 = .ok (.aload_n 0, 1) := by decide +kernel
theorem d89_38 : decode (cod 89) 38 = .ok (.getfield 31, 3) := by decide +kernel
theorem d89_41 : decode (cod 89) 41 = .ok (.iconst 0, 1) := by decide +kernel
theorem d89_42 : decode (cod 89) 42 = .ok (.bipush 20, 2) := by decide +kernel
theorem d89_44 : decode (cod 89) 44 = .ok (.invokestatic 42, 3) := by decide +kernel
theorem d89_47 : decode (cod 89) 47 = .ok (.aload_n 1, 1) := by decide +kernel
theorem d89_48 : decode (cod 89) 48 = .ok (.getfield 35, 3) := by decide +kernel
theorem d89_51 : decode (cod 89) 51 = .ok (.iconst 0, 1) := by decide +kernel
theorem d89_52 : decode (cod 89) 52 = .ok (.aload_n 0, 1) := by decide +kernel
theorem d89_53 : decode (cod 89) 53 = .ok (.getfield 35, 3) := by decide +kernel
theorem d89_56 : decode (cod 89) 56 = .ok (.iconst 0, 1) := by decide +kernel
theorem d89_57 : decode (cod 89) 57 = .ok (.bipush 10, 2) := by decide +kernel
theorem d89_59 : decode (cod 89) 59 = .ok (.invokestatic 42, 3) := by decide +kernel
theorem d89_62 : decode (cod 89) 62 = .ok (.return_, 1) := by decide +kernel
theorem d90_0 : decode (cod 90) 0 = .ok (.aload_n 0, 1) := by decide +kernel
theorem d90_1 : decode (cod 90) 1 = .ok (.getfield 9, 3) := by decide +kernel
theorem d90_4 : decode (cod 90) 4 = .ok (.iload_n 1, 1) := by decide +kernel
theorem d90_5 : decode (cod 90) 5 = .ok (.lshr, 1) := by decide +kernel
theorem d90_6 : decode (cod 90) 6 = .ok (.lconst 1, 1) := by decide +kernel
theorem d90_7 : decode (cod 90) 7 = .ok (.land, 1) := by decide +kernel
theorem d90_8 : decode (cod 90) 8 = .ok (.lconst 0, 1) := by decide +kernel
theorem d90_9 : decode (cod 90) 9 = .ok (.lcmp, 1) := by decide +kernel
theorem d90_10 : decode (cod 90) 10 = .ok (.ifCond .eq 7, 3) := by decide +kernel
theorem d90_13 : decode (cod 90) 13 = .ok (.iconst 1, 1) := by decide +kernel
theorem d90_14 : decode (cod 90) 14 = .ok (.goto 4, 3) := by decide +kernel
theorem d90_17 : decode (cod 90) 17 = .ok (.iconst 0, 1) := by decide +kernel
theorem d90_18 : decode (cod 90) 18 = .ok (.istore_n 3, 1) := by decide +kernel
theorem d90_19 : decode (cod 90) 19 = .ok (.aload_n 0, 1) := by decide +kernel
theorem d90_20 : decode (cod 90) 20 = .ok (.iload_n 2, 1) := by decide +kernel
theorem d90_21 : decode (cod 90) 21 = .ok (.ifCond .eq 14, 3) := by decide +kernel
theorem d90_24 : decode (cod 90) 24 = .ok (.aload_n 0, 1) := by decide +kernel
theorem d90_25 : decode (cod 90) 25 = .ok (.getfield 9, 3) := by decide +kernel
theorem d90_28 : decode (cod 90) 28 = .ok (.lconst 1, 1) := by decide +kernel
theorem d90_29 : decode (cod 90) 29 = .ok (.iload_n 1, 1) := by decide +kernel
theorem d90_30 : decode (cod 90) 30 = .ok (.lshl, 1) := by decide +kernel
theorem d90_31 : decode (cod 90) 31 = .ok (.lor, 1) := by decide +kernel
theorem d90_32 : decode (cod 90) 32 = .ok (.goto 15, 3) := by decide +kernel
theorem d90_35 : decode (cod 90) 35 = .ok (.aload_n 0, 1) := by decide +kernel
theorem d90_36 : decode (cod 90) 36 = .ok (.getfield 9, 3) := by decide +kernel
theorem d90_39 : decode (cod 90) 39 = .ok (.lconst 1, 1) := by decide +kernel
theorem d90_40 : decode (cod 90) 40 = .ok (.iload_n 1, 1) := by decide +kernel
theorem d90_41 : decode (cod 90) 41 = .ok (.lshl, 1) := by decide +kernel
theorem d90_42 : decode (cod 90) 42 = .ok (.ldc2_w 48, 3) := by decide +kernel
theorem d90_45 : decode (cod 90) 45 = .ok (.lxor, 1) := by decide +kernel
theorem d90_46 : decode (cod 90) 46 = .ok (.land, 1) := by decide +kernel
theorem d90_47 : decode (cod 90) 47 = .ok (.putfield 9, 3) := by decide +kernel
theorem d90_50 : decode (cod 90) 50 = .ok (.iload_n 3, 1) := by decide +kernel
theorem d90_51 : decode (cod 90) 51 = .ok (.ireturn, 1) := by decide +kernel
theorem d91_0 : decode (cod 91) 0 = .ok (.aload_n 0, 1) := by decide +kernel
theorem d91_1 : decode (cod 91) 1 = .ok (.getfield 15, 3) := by decide +kernel
theorem d91_4 : decode (cod 91) 4 = .ok (.bipush 20, 2) := by decide +kernel
theorem d91_6 : decode (cod 91) 6 = .ok (.if_icmp .lt 6, 3) := by decide +kernel
theorem d91_9 : decode (cod 91) 9 = .ok (.bipush (-4), 2) := by decide +kernel
theorem d91_11 : decode (cod 91) 11 = .ok (.ireturn, 1) := by decide +kernel
theorem d91_12 : decode (cod 91) 12 = .ok (.aload_n 0, 1) := by decide +kernel
theorem d91_13 : decode (cod 91) 13 = .ok (.getfield 31, 3) := by decide +kernel
theorem d91_16 : decode (cod 91) 16 = .ok (.aload_n 0, 1) := by decide +kernel
theorem d91_17 : decode (cod 91) 17 = .ok (.getfield 15, 3) := by decide +kernel
theorem d91_20 : decode (cod 91) 20 = .ok (.lload_n 1, 1) := by decide +kernel
theorem d91_21 : decode (cod 91) 21 = .ok (.lastore, 1) := by decide +kernel
theorem d91_22 : decode (cod 91) 22 = .ok (.iload_n 3, 1) := by decide +kernel
theorem d91_23 : decode (cod 91) 23 = .ok (.ifCond .eq 18, 3) := by decide +kernel
theorem d91_26 : decode (cod 91) 26 = .ok (.aload_n 0, 1) := by decide +kernel
theorem d91_27 : decode (cod 91) 27 = .ok (.dup, 1) := by decide +kernel
theorem d91_28 : decode (cod 91) 28 = .ok (.getfield 28, 3) := by decide +kernel
theorem d91_31 : decode (cod 91) 31 = .ok (.iconst 1, 1) := by decide +kernel
theorem d91_32 : decode (cod 91) 32 = .ok (.aload_n 0, 1) := by decide +kernel
theorem d91_33 : decode (cod 91) 33 = .ok (.getfield 15, 3) := by decide +kernel
theorem d91_36 : decode (cod 91) 36 = .ok (.ishl, 1) := by decide +kernel
theorem d91_37 : decode (cod 91) 37 = .ok (.ior, 1) := by decide +kernel
theorem d91_38 : decode (cod 91) 38 = .ok (.putfield 28, 3) := by decide +kernel
theorem d91_41 : decode (cod 91) 41 = .ok (.aload_n 0, 1) := by decide +kernel
theorem d91_42 : decode (cod 91) 42 = .ok (.dup, 1) := by decide +kernel
theorem d91_43 : decode (cod 91) 43 = .ok (.getfield 15, 3) := by decide +kernel
theorem d91_46 : decode (cod 91) 46 = .ok (.iconst 1, 1) := by decide +kernel
theorem d91_47 : decode (cod 91) 47 = .ok (.iadd, 1) := by decide +kernel
theorem d91_48 : decode (cod 91) 48 = .ok (.putfield 15, 3) := by decide +kernel
theorem d91_51 : decode (cod 91) 51 = .ok (.aload_n 0, 1) := by decide +kernel
theorem d91_52 : decode (cod 91) 52 = .ok (.getfield 15, 3) := by decide +kernel
theorem d91_55 : decode (cod 91) 55 = .ok (.ireturn, 1) := by decide +kernel
theorem d92_0 : decode (cod 92) 0 = .ok (.iconst 0, 1) := by decide +kernel
theorem d92_1 : decode (cod 92) 1 = .ok (.istore_n 2, 1) := by decide +kernel
theorem d92_2 : decode (cod 92) 2 = .ok (.iload_n 2, 1) := by decide +kernel
theorem d92_3 : decode (cod 92) 3 = .ok (.aload_n 0, 1) := by decide +kernel
theorem d92_4 : decode (cod 92) 4 = .ok (.getfield 19, 3) := by decide +kernel
theorem d92_7 : decode (cod 92) 7 = .ok (.if_icmp .ge 21, 3) := by decide +kernel
theorem d92_10 : decode (cod 92) 10 = .ok (.aload_n 0, 1) := by decide +kernel
theorem d92_11 : decode (cod 92) 11 = .ok (.getfield 35, 3) := by decide +kernel
theorem d92_14 : decode (cod 92) 14 = .ok (.iload_n 2, 1) := by decide +kernel
theorem d92_15 : decode (cod 92) 15 = .ok (.iaload, 1) := by decide +kernel
theorem d92_16 : decode (cod 92) 16 = .ok (.iload_n 1, 1) := by decide +kernel
theorem d92_17 : decode (cod 92) 17 = .ok (.if_icmp .ne 5, 3) := by decide +kernel
theorem d92_20 : decode (cod 92) 20 = .ok (.iconst 1, 1) := by decide +kernel
theorem d92_21 : decode (cod 92) 21 = .ok (.ireturn, 1) := by decide +kernel
theorem d92_22 : decode (cod 92) 22 = .ok (.iinc 2 1, 3) := by decide +kernel
theorem d92_25 : decode (cod 92) 25 = .ok (.goto (-23), 3) := by decide +kernel
theorem d92_28 : decode (cod 92) 28 = .ok (.iconst 0, 1) := by decide +kernel
theorem d92_29 : decode (cod 92) 29 = .ok (.ireturn, 1) := by decide +kernel
theorem d93_0 : decode (cod 93) 0 = .ok (.aload_n 0, 1) := by decide +kernel
theorem d93_1 : decode (cod 93) 1 = .ok (.getfield 19, 3) := by decide +kernel
theorem d93_4 : decode (cod 93) 4 = .ok (.bipush 10, 2) := by decide +kernel
theorem d93_6 : decode (cod 93) 6 = .ok (.if_icmp .lt 6, 3) := by decide +kernel
theorem d93_9 : decode (cod 93) 9 = .ok (.bipush (-4), 2) := by decide +kernel
theorem d93_11 : decode (cod 93) 11 = .ok (.ireturn, 1) := by decide +kernel
theorem d93_12 : decode (cod 93) 12 = .ok (.aload_n 0, 1) := by decide +kernel
theorem d93_13 : decode (cod 93) 13 = .ok (.getfield 35, 3) := by decide +kernel
theorem d93_16 : decode (cod 93) 16 = .ok (.aload_n 0, 1) := by decide +kernel
theorem d93_17 : decode (cod 93) 17 = .ok (.getfield 19, 3) := by decide +kernel
theorem d93_20 : decode (cod 93) 20 = .ok (.iload_n 1, 1) := by decide +kernel
theorem d93_21 : decode (cod 93) 21 = .ok (.iastore, 1) := by decide +kernel
theorem d93_22 : decode (cod 93) 22 = .ok (.aload_n 0, 1) := by decide +kernel
theorem d93_23 : decode (cod 93) 23 = .ok (.dup, 1) := by decide +kernel
theorem d93_24 : decode (cod 93) 24 = .ok (.getfield 19, 3) := by decide +kernel
theorem d93_27 : decode (cod 93) 27 = .ok (.iconst 1, 1) := by decide +kernel
theorem d93_28 : decode (cod 93) 28 = .ok (.iadd, 1) := by decide +kernel
theorem d93_29 : decode (cod 93) 29 = .ok (.putfield 19, 3) := by decide +kernel
theorem d93_32 : decode (cod 93) 32 = .ok (.aload_n 0, 1) := by decide +kernel
theorem d93_33 : decode (cod 93) 33 = .ok (.getfield 19, 3) := by decide +kernel
theorem d93_36 : decode (cod 93) 36 = .ok (.ireturn, 1) := by decide +kernel
theorem d94_0 : decode (cod 94) 0 = .ok (.iconst 0, 1) := by decide +kernel
theorem d94_1 : decode (cod 94) 1 = .ok (.istore_n 1, 1) := by decide +kernel
theorem d94_2 : decode (cod 94) 2 = .ok (.iload_n 1, 1) := by decide +kernel
theorem d94_3 : decode (cod 94) 3 = .ok (.aload_n 0, 1) := by decide +kernel
theorem d94_4 : decode (cod 94) 4 = .ok (.getfield 15, 3) := by decide +kernel
theorem d94_7 : decode (cod 94) 7 = .ok (.if_icmp .ge 20, 3) := by decide +kernel
theorem d94_10 : decode (cod 94) 10 = .ok (.aload_n 0, 1) := by decide +kernel
theorem d94_11 : decode (cod 94) 11 = .ok (.getfield 39, 3) := by decide +kernel
theorem d94_14 : decode (cod 94) 14 = .ok (.iload_n 1, 1) := by decide +kernel
theorem d94_15 : decode (cod 94) 15 = .ok (.aload_n 0, 1) := by decide +kernel
theorem d94_16 : decode (cod 94) 16 = .ok (.iload_n 1, 1) := by decide +kernel
theorem d94_17 : decode (cod 94) 17 = .ok (.invokevirtual 50, 3) := by decide +kernel
theorem d94_20 : decode (cod 94) 20 = .ok (.iastore, 1) := by decide +kernel
theorem d94_21 : decode (cod 94) 21 = .ok (.iinc 1 1, 3) := by decide +kernel
theorem d94_24 : decode (cod 94) 24 = .ok (.goto (-22), 3) := by decide +kernel
theorem d94_27 : decode (cod 94) 27 = .ok (.aload_n 0, 1) := by decide +kernel
theorem d94_28 : decode (cod 94) 28 = .ok (.iconst 0, 1) := by decide +kernel
theorem d94_29 : decode (cod 94) 29 = .ok (.putfield 22, 3) := by decide +kernel
theorem d94_32 : decode (cod 94) 32 = .ok (.aload_n 0, 1) := by decide +kernel
theorem d94_33 : decode (cod 94) 33 = .ok (.iconst 0, 1) := by decide +kernel
theorem d94_34 : decode (cod 94) 34 = .ok (.putfield 25, 3) := by decide +kernel
theorem d94_37 : decode (cod 94) 37 = .ok (.iconst 0, 1) := by decide +kernel
theorem d94_38 : decode (cod 94) 38 = .ok (.istore_n 1, 1) := by decide +kernel
theorem d94_39 : decode (cod 94) 39 = .ok (.iload_n 1, 1) := by decide +kernel
theorem d94_40 : decode (cod 94) 40 = .ok (.iconst 1, 1) := by decide +kernel
theorem d94_41 : decode (cod 94) 41 = .ok (.aload_n 0, 1) := by decide +kernel
theorem d94_42 : decode (cod 94) 42 = .ok (.getfield 19, 3) := by decide +kernel
theorem d94_45 : decode (cod 94) 45 = .ok (.ishl, 1) := by decide +kernel
theorem d94_46 : decode (cod 94) 46 = .ok (.if_icmp .ge 75, 3) := by decide +kernel
theorem d94_49 : decode (cod 94) 49 = .ok (.iload_n 1, 1) := by decide +kernel
theorem d94_50 : decode (cod 94) 50 = .ok (.invokestatic 54, 3) := by decide +kernel
theorem d94_53 : decode (cod 94) 53 = .ok (.aload_n 0, 1) := by decide +kernel
theorem d94_54 : decode (cod 94) 54 = .ok (.getfield 22, 3) := by decide +kernel
theorem d94_57 : decode (cod 94) 57 = .ok (.invokestatic 54, 3) := by decide +kernel
theorem d94_60 : decode (cod 94) 60 = .ok (.isub, 1) := by decide +kernel
theorem d94_61 : decode (cod 94) 61 = .ok (.istore_n 2, 1) := by decide +kernel
theorem d94_62 : decode (cod 94) 62 = .ok (.aload_n 0, 1) := by decide +kernel
theorem d94_63 : decode (cod 94) 63 = .ok (.getfield 25, 3) := by decide +kernel
theorem d94_66 : decode (cod 94) 66 = .ok (.ifCond .le 7, 3) := by decide +kernel
theorem d94_69 : decode (cod 94) 69 = .ok (.iload_n 2, 1) := by decide +kernel
theorem d94_70 : decode (cod 94) 70 = .ok (.ifCond .gt 45, 3) := by decide +kernel
theorem d94_73 : decode (cod 94) 73 = .ok (.aload_n 0, 1) := by decide +kernel
theorem d94_74 : decode (cod 94) 74 = .ok (.iload_n 1, 1) := by decide +kernel
theorem d94_75 : decode (cod 94) 75 = .ok (.invokevirtual 59, 3) := by decide +kernel
theorem d94_78 : decode (cod 94) 78 = .ok (.ifCond .ne 6, 3) := by decide +kernel
theorem d94_81 : decode (cod 94) 81 = .ok (.goto 34, 3) := by decide +kernel
theorem d94_84 : decode (cod 94) 84 = .ok (.aload_n 0, 1) := by decide +kernel
theorem d94_85 : decode (cod 94) 85 = .ok (.getfield 25, 3) := by decide +kernel
theorem d94_88 : decode (cod 94) 88 = .ok (.ifCond .eq 7, 3) := by decide +kernel
theorem d94_91 : decode (cod 94) 91 = .ok (.iload_n 2, 1) := by decide +kernel
theorem d94_92 : decode (cod 94) 92 = .ok (.ifCond .ge 13, 3) := by decide +kernel
theorem d94_95 : decode (cod 94) 95 = .ok (.aload_n 0, 1) := by decide +kernel
theorem d94_96 : decode (cod 94) 96 = .ok (.iload_n 1, 1) := by decide +kernel
theorem d94_97 : decode (cod 94) 97 = .ok (.putfield 22, 3) := by decide +kernel
theorem d94_100 : decode (cod 94) 100 = .ok (.aload_n 0, 1) := by decide +kernel
theorem d94_101 : decode (cod 94) 101 = .ok (.iconst 0, 1) := by decide +kernel
theorem d94_102 : decode (cod 94) 102 = .ok (.putfield 25, 3) := by decide +kernel
theorem d94_105 : decode (cod 94) 105 = .ok (.aload_n 0, 1) := by decide +kernel
theorem d94_106 : decode (cod 94) 106 = .ok (.dup, 1) := by decide +kernel
theorem d94_107 : decode (cod 94) 107 = .ok (.getfield 25, 3) := by decide +kernel
theorem d94_110 : decode (cod 94) 110 = .ok (.iconst 1, 1) := by decide +kernel
theorem d94_111 : decode (cod 94) 111 = .ok (.iadd, 1) := by decide +kernel
theorem d94_112 : decode (cod 94) 112 = .ok (.putfield 25, 3) := by decide +kernel
theorem d94_115 : decode (cod 94) 115 = .ok (.iinc 1 1, 3) := by decide +kernel
theorem d94_118 : decode (cod 94) 118 = .ok (.goto (-79), 3) := by decide +kernel
theorem d94_121 : decode (cod 94) 121 = .ok (.return_, 1) := by decide +kernel
theorem d95_0 : decode (cod 95) 0 = .ok (.iconst 0, 1) := by decide +kernel
theorem d95_1 : decode (cod 95) 1 = .ok (.istore_n 2, 1) := by decide +kernel
theorem d95_2 : decode (cod 95) 2 = .ok (.iconst 0, 1) := by decide +kernel
theorem d95_3 : decode (cod 95) 3 = .ok (.istore_n 3, 1) := by decide +kernel
theorem d95_4 : decode (cod 95) 4 = .ok (.iload_n 3, 1) := by decide +kernel
theorem d95_5 : decode (cod 95) 5 = .ok (.aload_n 0, 1) := by decide +kernel
theorem d95_6 : decode (cod 95) 6 = .ok (.getfield 19, 3) := by decide +kernel
theorem d95_9 : decode (cod 95) 9 = .ok (.if_icmp .ge 35, 3) := by decide +kernel
theorem d95_12 : decode (cod 95) 12 = .ok (.aload_n 0, 1) := by decide +kernel
theorem d95_13 : decode (cod 95) 13 = .ok (.getfield 31, 3) := by decide +kernel
theorem d95_16 : decode (cod 95) 16 = .ok (.iload_n 1, 1) := by decide +kernel
theorem d95_17 : decode (cod 95) 17 = .ok (.laload, 1) := by decide +kernel
theorem d95_18 : decode (cod 95) 18 = .ok (.aload_n 0, 1) := by decide +kernel
theorem d95_19 : decode (cod 95) 19 = .ok (.getfield 35, 3) := by decide +kernel
theorem d95_22 : decode (cod 95) 22 = .ok (.iload_n 3, 1) := by decide +kernel
theorem d95_23 : decode (cod 95) 23 = .ok (.iaload, 1) := by decide +kernel
theorem d95_24 : decode (cod 95) 24 = .ok (.lshr, 1) := by decide +kernel
theorem d95_25 : decode (cod 95) 25 = .ok (.lconst 1, 1) := by decide +kernel
theorem d95_26 : decode (cod 95) 26 = .ok (.land, 1) := by decide +kernel
theorem d95_27 : decode (cod 95) 27 = .ok (.lconst 0, 1) := by decide +kernel
theorem d95_28 : decode (cod 95) 28 = .ok (.lcmp, 1) := by decide +kernel
theorem d95_29 : decode (cod 95) 29 = .ok (.ifCond .eq 9, 3) := by decide +kernel
theorem d95_32 : decode (cod 95) 32 = .ok (.iload_n 2, 1) := by decide +kernel
theorem d95_33 : decode (cod 95) 33 = .ok (.iconst 1, 1) := by decide +kernel
theorem d95_34 : decode (cod 95) 34 = .ok (.iload_n 3, 1) := by decide +kernel
theorem d95_35 : decode (cod 95) 35 = .ok (.ishl, 1) := by decide +kernel
theorem d95_36 : decode (cod 95) 36 = .ok (.ior, 1) := by decide +kernel
theorem d95_37 : decode (cod 95) 37 = .ok (.istore_n 2, 1) := by decide +kernel
theorem d95_38 : decode (cod 95) 38 = .ok (.iinc 3 1, 3) := by decide +kernel
theorem d95_41 : decode (cod 95) 41 = .ok (.goto (-37), 3) := by decide +kernel
theorem d95_44 : decode (cod 95) 44 = .ok (.iload_n 2, 1) := by decide +kernel
theorem d95_45 : decode (cod 95) 45 = .ok (.ireturn, 1) := by decide +kernel
theorem d96_0 : decode (cod 96) 0 = .ok (.iconst 0, 1) := by decide +kernel
theorem d96_1 : decode (cod 96) 1 = .ok (.istore_n 2, 1) := by decide +kernel
theorem d96_2 : decode (cod 96) 2 = .ok (.iload_n 2, 1) := by decide +kernel
theorem d96_3 : decode (cod 96) 3 = .ok (.aload_n 0, 1) := by decide +kernel
theorem d96_4 : decode (cod 96) 4 = .ok (.getfield 15, 3) := by decide +kernel
theorem d96_7 : decode (cod 96) 7 = .ok (.if_icmp .ge 48, 3) := by decide +kernel
theorem d96_10 : decode (cod 96) 10 = .ok (.aload_n 0, 1) := by decide +kernel
theorem d96_11 : decode (cod 96) 11 = .ok (.getfield 39, 3) := by decide +kernel
theorem d96_14 : decode (cod 96) 14 = .ok (.iload_n 2, 1) := by decide +kernel
theorem d96_15 : decode (cod 96) 15 = .ok (.iaload, 1) := by decide +kernel
theorem d96_16 : decode (cod 96) 16 = .ok (.iload_n 1, 1) := by decide +kernel
theorem d96_17 : decode (cod 96) 17 = .ok (.iand, 1) := by decide +kernel
theorem d96_18 : decode (cod 96) 18 = .ok (.ifCond .ne 7, 3) := by decide +kernel
theorem d96_21 : decode (cod 96) 21 = .ok (.iconst 1, 1) := by decide +kernel
theorem d96_22 : decode (cod 96) 22 = .ok (.goto 4, 3) := by decide +kernel
theorem d96_25 : decode (cod 96) 25 = .ok (.iconst 0, 1) := by decide +kernel
theorem d96_26 : decode (cod 96) 26 = .ok (.istore_n 3, 1) := by decide +kernel
theorem d96_27 : decode (cod 96) 27 = .ok (.iload_n 3, 1) := by decide +kernel
theorem d96_28 : decode (cod 96) 28 = .ok (.aload_n 0, 1) := by decide +kernel
theorem d96_29 : decode (cod 96) 29 = .ok (.getfield 28, 3) := by decide +kernel
theorem d96_32 : decode (cod 96) 32 = .ok (.iload_n 2, 1) := by decide +kernel
theorem d96_33 : decode (cod 96) 33 = .ok (.ishr, 1) := by decide +kernel
theorem d96_34 : decode (cod 96) 34 = .ok (.iconst 1, 1) := by decide +kernel
theorem d96_35 : decode (cod 96) 35 = .ok (.iand, 1) := by decide +kernel
theorem d96_36 : decode (cod 96) 36 = .ok (.ifCond .eq 7, 3) := by decide +kernel
theorem d96_39 : decode (cod 96) 39 = .ok (.iconst 1, 1) := by decide +kernel
theorem d96_40 : decode (cod 96) 40 = .ok (.goto 4, 3) := by decide +kernel
theorem d96_43 : decode (cod 96) 43 = .ok (.iconst 0, 1) := by decide +kernel
theorem d96_44 : decode (cod 96) 44 = .ok (.if_icmp .eq 5, 3) := by decide +kernel
theorem d96_47 : decode (cod 96) 47 = .ok (.iconst 0, 1) := by decide +kernel
theorem d96_48 : decode (cod 96) 48 = .ok (.ireturn, 1) := by decide +kernel
theorem d96_49 : decode (cod 96) 49 = .ok (.iinc 2 1, 3) := by decide +kernel
theorem d96_52 : decode (cod 96) 52 = .ok (.goto (-50), 3) := by decide +kernel
theorem d96_55 : decode (cod 96) 55 = .ok (.iconst 1, 1) := by decide +kernel
theorem d96_56 : decode (cod 96) 56 = .ok (.ireturn, 1) := by decide +kernel
theorem d97_0 : decode (cod 97) 0 = .ok (.aload_n 0, 1) := by decide +kernel
theorem d97_1 : decode (cod 97) 1 = .ok (.invokespecial 3, 3) := by decide +kernel
theorem d97_4 : decode (cod 97) 4 = .ok (.aload_n 0, 1) := by decide +kernel
theorem d97_5 : decode (cod 97) 5 = .ok (.iconst 0, 1) := by decide +kernel
theorem d97_6 : decode (cod 97) 6 = .ok (.putfield 9, 3) := by decide +kernel
theorem d97_9 : decode (cod 97) 9 = .ok (.aload_n 0, 1) := by decide +kernel
theorem d97_10 : decode (cod 97) 10 = .ok (.new 15, 3) := by decide +kernel
theorem d97_13 : decode (cod 97) 13 = .ok (.dup, 1) := by decide +kernel
theorem d97_14 : decode (cod 97) 14 = .ok (.invokespecial 17, 3) := by decide +kernel
theorem d97_17 : decode (cod 97) 17 = .ok (.putfield 18, 3) := by decide +kernel
theorem d97_20 : decode (cod 97) 20 = .ok (.aload_n 0, 1) := by decide +kernel
theorem d97_21 : decode (cod 97) 21 = .ok (.new 22, 3) := by decide +kernel
theorem d97_24 : decode (cod 97) 24 = .ok (.dup, 1) := by decide +kernel
theorem d97_25 : decode (cod 97) 25 = .ok (.invokespecial 24, 3) := by decide +kernel
theorem d97_28 : decode (cod 97) 28 = .ok (.putfield 25, 3) := by decide +kernel
theorem d97_31 : decode (cod 97) 31 = .ok (.aload_n 0, 1) := by decide +kernel
theorem d97_32 : decode (cod 97) 32 = .ok (.new 29, 3) := by decide +kernel
theorem d97_35 : decode (cod 97) 35 = .ok (.dup, 1) := by decide +kernel
theorem d97_36 : decode (cod 97) 36 = .ok (.invokespecial 31, 3) := by decide +kernel
theorem d97_39 : decode (cod 97) 39 = .ok (.putfield 32, 3) := by decide +kernel
theorem d97_42 : decode (cod 97) 42 = .ok (.aload_n 0, 1) := by decide +kernel
theorem d97_43 : decode (cod 97) 43 = .ok (.new 36, 3) := by decide +kernel
theorem d97_46 : decode (cod 97) 46 = .ok (.dup, 1) := by decide +kernel
theorem d97_47 : decode (cod 97) 47 = .ok (.invokespecial 38, 3) := by decide +kernel
theorem d97_50 : decode (cod 97) 50 = .ok (.putfield 39, 3) := by decide +kernel
theorem d97_53 : decode (cod 97) 53 = .ok (.aload_n 0, 1) := by decide +kernel
theorem d97_54 : decode (cod 97) 54 = .ok (.new 43, 3) := by decide +kernel
theorem d97_57 : decode (cod 97) 57 = .ok (.dup, 1) := by decide +kernel
theorem d97_58 : decode (cod 97) 58 = .ok (.invokespecial 45, 3) := by decide +kernel
theorem d97_61 : decode (cod 97) 61 = .ok (.putfield 46, 3) := by decide +kernel
theorem d97_64 : decode (cod 97) 64 = .ok (.aload_n 0, 1) := by decide +kernel
theorem d97_65 : decode (cod 97) 65 = .ok (.new 50, 3) := by decide +kernel
theorem d97_68 : decode (cod 97) 68 = .ok (.dup, 1) := by decide +kernel
theorem d97_69 : decode (cod 97) 69 = .ok (.invokespecial 52, 3) := by decide +kernel
theorem d97_72 : decode (cod 97) 72 = .ok (.putfield 53, 3) := by decide +kernel
theorem d97_75 : decode (cod 97) 75 = .ok (.return_, 1) := by decide +kernel
theorem d98_0 : decode (cod 98) 0 = .ok (.aload_n 0, 1) := by decide +kernel
theorem d98_1 : decode (cod 98) 1 = .ok (.getfield 9, 3) := by decide +kernel
theorem d98_4 : decode (cod 98) 4 = .ok (.bipush 100, 2) := by decide +kernel
theorem d98_6 : decode (cod 98) 6 = .ok (.idiv, 1) := by decide +kernel
theorem d98_7 : decode (cod 98) 7 = .ok (.ireturn, 1) := by decide +kernel
theorem d99_0 : decode (cod 99) 0 = .ok (.aload_n 0, 1) := by decide +kernel
theorem d99_1 : decode (cod 99) 1 = .ok (.aload_n 1, 1) := by decide +kernel
theorem d99_2 : decode (cod 99) 2 = .ok (.getfield 9, 3) := by decide +kernel
theorem d99_5 : decode (cod 99) 5 = .ok (.putfield 9, 3) := by decide +kernel
theorem d99_8 : decode (cod 99) 8 = .ok (.aload_n 0, 1) := by decide +kernel
theorem d99_9 : decode (cod 99) 9 = .ok (.getfield 18, 3) := by decide +kernel
theorem d99_12 : decode (cod 99) 12 = .ok (.aload_n 1, 1) := by decide +kernel
theorem d99_13 : decode (cod 99) 13 = .ok (.getfield 18, 3) := by decide +kernel
theorem d99_16 : decode (cod 99) 16 = .ok (.invokevirtual 57, 3) := by decide +kernel
theorem d99_19 : decode (cod 99) 19 = .ok (.aload_n 0, 1) := by decide +kernel
theorem d99_20 : decode (cod 99) 20 = .ok (.getfield 25, 3) := by decide +kernel
theorem d99_23 : decode (cod 99) 23 = .ok (.aload_n 1, 1) := by decide +kernel
theorem d99_24 : decode (cod 99) 24 = .ok (.getfield 25, 3) := by decide +kernel
theorem d99_27 : decode (cod 99) 27 = .ok (.invokevirtual 61, 3) := by decide +kernel
theorem d99_30 : decode (cod 99) 30 = .ok (.aload_n 0, 1) := by decide +kernel
theorem d99_31 : decode (cod 99) 31 = .ok (.getfield 32, 3) := by decide +kernel
theorem d99_34 : decode (cod 99) 34 = .ok (.aload_n 1, 1) := by decide +kernel
theorem d99_35 : decode (cod 99) 35 = .ok (.getfield 32, 3) := by decide +kernel
theorem d99_38 : decode (cod 99) 38 = .ok (.invokevirtual 64, 3) := by decide +kernel
theorem d99_41 : decode (cod 99) 41 = .ok (.aload_n 0, 1) := by decide +kernel
theorem d99_42 : decode (cod 99) 42 = .ok (.getfield 39, 3) := by decide +kernel
theorem d99_45 : decode (cod 99) 45 = .ok (.aload_n 1, 1) := by decide +kernel
theorem d99_46 : decode (cod 99) 46 = .ok (.getfield 39, 3) := by decide +kernel
theorem d99_49 : decode (cod 99) 49 = .ok (.invokevirtual 67, 3) := by decide +kernel
theorem d99_52 : decode (cod 99) 52 = .ok (.aload_n 0, 1) := by decide +kernel
theorem d99_53 : decode (cod 99) 53 = .ok (.getfield 46, 3) := by decide +kernel
theorem d99_56 : decode (cod 99) 56 = .ok (.aload_n 1, 1) := by decide +kernel
theorem d99_57 : decode (cod 99) 57 = .ok (.getfield 46, 3) := by decide +kernel
theorem d99_60 : decode (cod 99) 60 = .ok (.invokevirtual 70, 3) := by decide +kernel
theorem d99_63 : decode (cod 99) 63 = .ok (.aload_n 0, 1) := by decide +kernel
theorem d99_64 : decode (cod 99) 64 = .ok (.getfield 53, 3) := by decide +kernel
theorem d99_67 : decode (cod 99) 67 = .ok (.aload_n 1, 1) := by decide +kernel
theorem d99_68 : decode (cod 99) 68 = .ok (.getfield 53, 3) := by decide +kernel
theorem d99_71 : decode (cod 99) 71 = .ok (.invokevirtual 73, 3) := by decide +kernel
theorem d99_74 : decode (cod 99) 74 = .ok (.return_, 1) := by decide +kernel
theorem d100_0 : decode (cod 100) 0 = .ok (.aload_n 0, 1) := by decide +kernel
theorem d100_1 : decode (cod 100) 1 = .ok (.getfield 32, 3) := by decide +kernel
theorem d100_4 : decode (cod 100) 4 = .ok (.iload_n 1, 1) := by decide +kernel
theorem d100_5 : decode (cod 100) 5 = .ok (.invokevirtual 76, 3) := by decide +kernel
theorem d100_8 : decode (cod 100) 8 = .ok (.ifCond .ne 4, 3) := by decide +kernel
theorem d100_11 : decode (cod 100) 11 = .ok (.return_, 1) := by decide +kernel
theorem d100_12 : decode (cod 100) 12 = .ok (.aload_n 0, 1) := by decide +kernel
theorem d100_13 : decode (cod 100) 13 = .ok (.getfield 32, 3) := by decide +kernel
theorem d100_16 : decode (cod 100) 16 = .ok (.getfield 80, 3) := by decide +kernel
theorem d100_19 : decode (cod 100) 19 = .ok (.iload_n 1, 1) := by decide +kernel
theorem d100_20 : decode (cod 100) 20 = .ok (.iaload, 1) := by decide +kernel
theorem d100_21 : decode (cod 100) 21 = .ok (.istore_n 2, 1) := by decide +kernel
theorem d100_22 : decode (cod 100) 22 = .ok (.aload_n 0, 1) := by decide +kernel
theorem d100_23 : decode (cod 100) 23 = .ok (.getfield 25, 3) := by decide +kernel
theorem d100_26 : decode (cod 100) 26 = .ok (.aload_n 0, 1) := by decide +kernel
theorem d100_27 : decode (cod 100) 27 = .ok (.getfield 32, 3) := by decide +kernel
theorem d100_30 : decode (cod 100) 30 = .ok (.getfield 84, 3) := by decide +kernel
theorem d100_33 : decode (cod 100) 33 = .ok (.iload_n 1, 1) := by decide +kernel
theorem d100_34 : decode (cod 100) 34 = .ok (.iaload, 1) := by decide +kernel
theorem d100_35 : decode (cod 100) 35 = .ok (.aload_n 0, 1) := by decide +kernel
theorem d100_36 : decode (cod 100) 36 = .ok (.getfield 18, 3) := by decide +kernel
theorem d100_39 : decode (cod 100) 39 = .ok (.iload_n 2, 1) := by decide +kernel
theorem d100_40 : decode (cod 100) 40 = .ok (.invokevirtual 87, 3) := by decide +kernel
theorem d100_43 : decode (cod 100) 43 = .ok (.iload_n 2, 1) := by decide +kernel
theorem d100_44 : decode (cod 100) 44 = .ok (.aload_n 0, 1) := by decide +kernel
theorem d100_45 : decode (cod 100) 45 = .ok (.getfield 32, 3) := by decide +kernel
theorem d100_48 : decode (cod 100) 48 = .ok (.getfield 91, 3) := by decide +kernel
theorem d100_51 : decode (cod 100) 51 = .ok (.iload_n 1, 1) := by decide +kernel
theorem d100_52 : decode (cod 100) 52 = .ok (.iaload, 1) := by decide +kernel
theorem d100_53 : decode (cod 100) 53 = .ok (.aload_n 0, 1) := by decide +kernel
theorem d100_54 : decode (cod 100) 54 = .ok (.getfield 32, 3) := by decide +kernel
theorem d100_57 : decode (cod 100) 57 = .ok (.getfield 94, 3) := by decide +kernel
theorem d100_60 : decode (cod 100) 60 = .ok (.iload_n 1, 1) := by decide +kernel
theorem d100_61 : decode (cod 100) 61 = .ok (.iaload, 1) := by decide +kernel
theorem d100_62 : decode (cod 100) 62 = .ok (.bipush 100, 2) := by decide +kernel
theorem d100_64 : decode (cod 100) 64 = .ok (.irem, 1) := by decide +kernel
theorem d100_65 : decode (cod 100) 65 = .ok (.invokevirtual 97, 3) := by decide +kernel
theorem d100_68 : decode (cod 100) 68 = .ok (.return_, 1) := by decide +kernel
theorem d101_0 : decode (cod 101) 0 = .ok (.aload_n 0, 1) := by decide +kernel
theorem d101_1 : decode (cod 101) 1 = .ok (.iload_n 2, 1) := by decide +kernel
theorem d101_2 : decode (cod 101) 2 = .ok (.invokevirtual 101, 3) := by decide +kernel
theorem d101_5 : decode (cod 101) 5 = .ok (.aload_n 0, 1) := by decide +kernel
theorem d101_6 : decode (cod 101) 6 = .ok (.getfield 25, 3) := by decide +kernel
theorem d101_9 : decode (cod 101) 9 = .ok (.iload_n 1, 1) := by decide +kernel
theorem d101_10 : decode (cod 101) 10 = .ok (.iload_n 3, 1) := by decide +kernel
theorem d101_11 : decode (cod 101) 11 = .ok (.invokevirtual 104, 3) := by decide +kernel
theorem d101_14 : decode (cod 101) 14 = .ok (.istore 4, 2) := by decide +kernel
theorem d101_16 : decode (cod 101) 16 = .ok (.iload 4, 2) := by decide +kernel
theorem d101_18 : decode (cod 101) 18 = .ok (.ifCond .ge 8, 3) := by decide +kernel
theorem d101_21 : decode (cod 101) 21 = .ok (.iload_n 1, 1) := by decide +kernel
theorem d101_22 : decode (cod 101) 22 = .ok (.invokestatic 108, 3) := by decide +kernel
theorem d101_25 : decode (cod 101) 25 = .ok (.ireturn, 1) := by decide +kernel
theorem d101_26 : decode (cod 101) 26 = .ok (.iload_n 1, 1) := by decide +kernel
theorem d101_27 : decode (cod 101) 27 = .ok (.iconst 5, 1) := by decide +kernel
theorem d101_28 : decode (cod 101) 28 = .ok (.if_icmp .ne 21, 3) := by decide +kernel
theorem d101_31 : decode (cod 101) 31 = .ok (.aload_n 0, 1) := by decide +kernel
theorem d101_32 : decode (cod 101) 32 = .ok (.getfield 25, 3) := by decide +kernel
theorem d101_35 : decode (cod 101) 35 = .ok (.iload 4, 2) := by decide +kernel
theorem d101_37 : decode (cod 101) 37 = .ok (.invokevirtual 111, 3) := by decide +kernel
theorem d101_40 : decode (cod 101) 40 = .ok (.ifCond .eq 7, 3) := by decide +kernel
theorem d101_43 : decode (cod 101) 43 = .ok (.iconst 1, 1) := by decide +kernel
theorem d101_44 : decode (cod 101) 44 = .ok (.goto 4, 3) := by decide +kernel
theorem d101_47 : decode (cod 101) 47 = .ok (.iconst 0, 1) := by decide +kernel
theorem d101_48 : decode (cod 101) 48 = .ok (.ireturn, 1) := by decide +kernel
theorem d101_49 : decode (cod 101) 49 = .ok (.aload_n 0, 1) := by decide +kernel
theorem d101_50 : decode (cod 101) 50 = .ok (.getfield 25, 3) := by decide +kernel
theorem d101_53 : decode (cod 101) 53 = .ok (.getfield 114, 3) := by decide +kernel
theorem d101_56 : decode (cod 101) 56 = .ok (.iload 4, 2) := by decide +kernel
theorem d101_58 : decode (cod 101) 58 = .ok (.iaload, 1) := by decide +kernel
theorem d101_59 : decode (cod 101) 59 = .ok (.ireturn, 1) := by decide +kernel
theorem d102_0 : decode (cod 102) 0 = .ok (.aload_n 0, 1) := by decide +kernel
theorem d102_1 : decode (cod 102) 1 = .ok (.iconst 0, 1) := by decide +kernel
theorem d102_2 : decode (cod 102) 2 = .ok (.iload_n 1, 1) := by decide +kernel
theorem d102_3 : decode (cod 102) 3 = .ok (.iload_n 2, 1) := by decide +kernel
theorem d102_4 : decode (cod 102) 4 = .ok (.invokevirtual 117, 3) := by decide +kernel
theorem d102_7 : decode (cod 102) 7 = .ok (.istore_n 3, 1) := by decide +kernel
theorem d102_8 : decode (cod 102) 8 = .ok (.aload_n 0, 1) := by decide +kernel
theorem d102_9 : decode (cod 102) 9 = .ok (.getfield 32, 3) := by decide +kernel
theorem d102_12 : decode (cod 102) 12 = .ok (.getfield 84, 3) := by decide +kernel
theorem d102_15 : decode (cod 102) 15 = .ok (.iload_n 1, 1) := by decide +kernel
theorem d102_16 : decode (cod 102) 16 = .ok (.iaload, 1) := by decide +kernel
theorem d102_17 : decode (cod 102) 17 = .ok (.istore 4, 2) := by decide +kernel
theorem d102_19 : decode (cod 102) 19 = .ok (.iload 4, 2) := by decide +kernel
theorem d102_21 : decode (cod 102) 21 = .ok (.iconst 4, 1) := by decide +kernel
theorem d102_22 : decode (cod 102) 22 = .ok (.if_icmp .ne 8, 3) := by decide +kernel
theorem d102_25 : decode (cod 102) 25 = .ok (.iload_n 3, 1) := by decide +kernel
theorem d102_26 : decode (cod 102) 26 = .ok (.bipush 20, 2) := by decide +kernel
theorem d102_28 : decode (cod 102) 28 = .ok (.isub, 1) := by decide +kernel
theorem d102_29 : decode (cod 102) 29 = .ok (.ireturn, 1) := by decide +kernel
theorem d102_30 : decode (cod 102) 30 = .ok (.iload 4, 2) := by decide +kernel
theorem d102_32 : decode (cod 102) 32 = .ok (.iconst 3, 1) := by decide +kernel
theorem d102_33 : decode (cod 102) 33 = .ok (.if_icmp .ne 9, 3) := by decide +kernel
theorem d102_36 : decode (cod 102) 36 = .ok (.iload_n 3, 1) := by decide +kernel
theorem d102_37 : decode (cod 102) 37 = .ok (.iconst 5, 1) := by decide +kernel
theorem d102_38 : decode (cod 102) 38 = .ok (.iadd, 1) := by decide +kernel
theorem d102_39 : decode (cod 102) 39 = .ok (.goto 4, 3) := by decide +kernel
theorem d102_42 : decode (cod 102) 42 = .ok (.iload_n 3, 1) := by decide +kernel
theorem d102_43 : decode (cod 102) 43 = .ok (.ireturn, 1) := by decide +kernel
theorem d103_0 : decode (cod 103) 0 = .ok (.aload_n 0, 1) := by decide +kernel
theorem d103_1 : decode (cod 103) 1 = .ok (.getfield 32, 3) := by decide +kernel
theorem d103_4 : decode (cod 103) 4 = .ok (.iload_n 1, 1) := by decide +kernel
theorem d103_5 : decode (cod 103) 5 = .ok (.aload_n 0, 1) := by decide +kernel
theorem d103_6 : decode (cod 103) 6 = .ok (.getfield 18, 3) := by decide +kernel
theorem d103_9 : decode (cod 103) 9 = .ok (.invokevirtual 121, 3) := by decide +kernel
theorem d103_12 : decode (cod 103) 12 = .ok (.aload_n 0, 1) := by decide +kernel
theorem d103_13 : decode (cod 103) 13 = .ok (.bipush 6, 2) := by decide +kernel
theorem d103_15 : decode (cod 103) 15 = .ok (.iload_n 1, 1) := by decide +kernel
theorem d103_16 : decode (cod 103) 16 = .ok (.aload_n 0, 1) := by decide +kernel
theorem d103_17 : decode (cod 103) 17 = .ok (.getfield 32, 3) := by decide +kernel
theorem d103_20 : decode (cod 103) 20 = .ok (.getfield 94, 3) := by decide +kernel
theorem d103_23 : decode (cod 103) 23 = .ok (.iload_n 1, 1) := by decide +kernel
theorem d103_24 : decode (cod 103) 24 = .ok (.iaload, 1) := by decide +kernel
theorem d103_25 : decode (cod 103) 25 = .ok (.bipush 100, 2) := by decide +kernel
theorem d103_27 : decode (cod 103) 27 = .ok (.idiv, 1) := by decide +kernel
theorem d103_28 : decode (cod 103) 28 = .ok (.invokevirtual 117, 3) := by decide +kernel
theorem d103_31 : decode (cod 103) 31 = .ok (.if_icmp .ge 7, 3) := by decide +kernel
theorem d103_34 : decode (cod 103) 34 = .ok (.iconst 1, 1) := by decide +kernel
theorem d103_35 : decode (cod 103) 35 = .ok (.goto 4, 3) := by decide +kernel
theorem d103_38 : decode (cod 103) 38 = .ok (.iconst 0, 1) := by decide +kernel
theorem d103_39 : decode (cod 103) 39 = .ok (.ireturn, 1) := by decide +kernel
theorem d104_0 : decode (cod 104) 0 = .ok (.iconst 0, 1) := by decide +kernel
theorem d104_1 : decode (cod 104) 1 = .ok (.istore_n 2, 1) := by decide +kernel
theorem d104_2 : decode (cod 104) 2 = .ok (.iconst 0, 1) := by decide +kernel
theorem d104_3 : decode (cod 104) 3 = .ok (.istore_n 3, 1) := by decide +kernel
theorem d104_4 : decode (cod 104) 4 = .ok (.iload_n 3, 1) := by decide +kernel
theorem d104_5 : decode (cod 104) 5 = .ok (.aload_n 0, 1) := by decide +kernel
theorem d104_6 : decode (cod 104) 6 = .ok (.getfield 32, 3) := by decide +kernel
theorem d104_9 : decode (cod 104) 9 = .ok (.getfield 125, 3) := by decide +kernel
theorem d104_12 : decode (cod 104) 12 = .ok (.if_icmp .ge 19, 3) := by decide +kernel
theorem d104_15 : decode (cod 104) 15 = .ok (.iload_n 2, 1) := by decide +kernel
theorem d104_16 : decode (cod 104) 16 = .ok (.aload_n 0, 1) := by decide +kernel
theorem d104_17 : decode (cod 104) 17 = .ok (.iconst 5, 1) := by decide +kernel
theorem d104_18 : decode (cod 104) 18 = .ok (.iload_n 3, 1) := by decide +kernel
theorem d104_19 : decode (cod 104) 19 = .ok (.iload_n 1, 1) := by decide +kernel
theorem d104_20 : decode (cod 104) 20 = .ok (.invokevirtual 117, 3) := by decide +kernel
theorem d104_23 : decode (cod 104) 23 = .ok (.iadd, 1) := by decide +kernel
theorem d104_24 : decode (cod 104) 24 = .ok (.istore_n 2, 1) := by decide +kernel
theorem d104_25 : decode (cod 104) 25 = .ok (.iinc 3 1, 3) := by decide +kernel
theorem d104_28 : decode (cod 104) 28 = .ok (.goto (-24), 3) := by decide +kernel
theorem d104_31 : decode (cod 104) 31 = .ok (.iload_n 2, 1) := by decide +kernel
theorem d104_32 : decode (cod 104) 32 = .ok (.ireturn, 1) := by decide +kernel
theorem d105_0 : decode (cod 105) 0 = .ok (.iload_n 2, 1) := by decide +kernel
theorem d105_1 : decode (cod 105) 1 = .ok (.aload_n 0, 1) := by decide +kernel
theorem d105_2 : decode (cod 105) 2 = .ok (.getfield 18, 3) := by decide +kernel
theorem d105_5 : decode (cod 105) 5 = .ok (.getfield 128, 3) := by decide +kernel
theorem d105_8 : decode (cod 105) 8 = .ok (.iload_n 1, 1) := by decide +kernel
theorem d105_9 : decode (cod 105) 9 = .ok (.iaload, 1) := by decide +kernel
theorem d105_10 : decode (cod 105) 10 = .ok (.isub, 1) := by decide +kernel
theorem d105_11 : decode (cod 105) 11 = .ok (.istore_n 3, 1) := by decide +kernel
theorem d105_12 : decode (cod 105) 12 = .ok (.iload_n 3, 1) := by decide +kernel
theorem d105_13 : decode (cod 105) 13 = .ok (.ifCond .le 10, 3) := by decide +kernel
theorem d105_16 : decode (cod 105) 16 = .ok (.iload_n 3, 1) := by decide +kernel
theorem d105_17 : decode (cod 105) 17 = .ok (.bipush 30, 2) := by decide +kernel
theorem d105_19 : decode (cod 105) 19 = .ok (.irem, 1) := by decide +kernel
theorem d105_20 : decode (cod 105) 20 = .ok (.ifCond .eq 5, 3) := by decide +kernel
theorem d105_23 : decode (cod 105) 23 = .ok (.iconst 0, 1) := by decide +kernel
theorem d105_24 : decode (cod 105) 24 = .ok (.ireturn, 1) := by decide +kernel
theorem d105_25 : decode (cod 105) 25 = .ok (.aload_n 0, 1) := by decide +kernel
theorem d105_26 : decode (cod 105) 26 = .ok (.iconst 1, 1) := by decide +kernel
theorem d105_27 : decode (cod 105) 27 = .ok (.iconst (-1), 1) := by decide +kernel
theorem d105_28 : decode (cod 105) 28 = .ok (.iload_n 2, 1) := by decide +kernel
theorem d105_29 : decode (cod 105) 29 = .ok (.iconst 1, 1) := by decide +kernel
theorem d105_30 : decode (cod 105) 30 = .ok (.isub, 1) := by decide +kernel
theorem d105_31 : decode (cod 105) 31 = .ok (.invokevirtual 117, 3) := by decide +kernel
theorem d105_34 : decode (cod 105) 34 = .ok (.iconst 3, 1) := by decide +kernel
theorem d105_35 : decode (cod 105) 35 = .ok (.aload_n 0, 1) := by decide +kernel
theorem d105_36 : decode (cod 105) 36 = .ok (.iconst 2, 1) := by decide +kernel
theorem d105_37 : decode (cod 105) 37 = .ok (.iconst (-1), 1) := by decide +kernel
theorem d105_38 : decode (cod 105) 38 = .ok (.iload_n 2, 1) := by decide +kernel
theorem d105_39 : decode (cod 105) 39 = .ok (.iconst 1, 1) := by decide +kernel
theorem d105_40 : decode (cod 105) 40 = .ok (.isub, 1) := by decide +kernel
theorem d105_41 : decode (cod 105) 41 = .ok (.invokevirtual 117, 3) := by decide +kernel
theorem d105_44 : decode (cod 105) 44 = .ok (.imul, 1) := by decide +kernel
theorem d105_45 : decode (cod 105) 45 = .ok (.iadd, 1) := by decide +kernel
theorem d105_46 : decode (cod 105) 46 = .ok (.ireturn, 1) := by decide +kernel
theorem d106_0 : decode (cod 106) 0 = .ok (.iconst 0, 1) := by decide +kernel
theorem d106_1 : decode (cod 106) 1 = .ok (.istore_n 3, 1) := by decide +kernel
theorem d106_2 : decode (cod 106) 2 = .ok (.aload_n 0, 1) := by decide +kernel
theorem d106_3 : decode (cod 106) 3 = .ok (.getfield 18, 3) := by decide +kernel
theorem d106_6 : decode (cod 106) 6 = .ok (.getfield 128, 3) := by decide +kernel
theorem d106_9 : decode (cod 106) 9 = .ok (.iload_n 1, 1) := by decide +kernel
theorem d106_10 : decode (cod 106) 10 = .ok (.iaload, 1) := by decide +kernel
theorem d106_11 : decode (cod 106) 11 = .ok (.bipush 30, 2) := by decide +kernel
theorem d106_13 : decode (cod 106) 13 = .ok (.iadd, 1) := by decide +kernel
theorem d106_14 : decode (cod 106) 14 = .ok (.istore 4, 2) := by decide +kernel
theorem d106_16 : decode (cod 106) 16 = .ok (.iload 4, 2) := by decide +kernel
theorem d106_18 : decode (cod 106) 18 = .ok (.iload_n 2, 1) := by decide +kernel
theorem d106_19 : decode (cod 106) 19 = .ok (.if_icmp .gt 19, 3) := by decide +kernel
theorem d106_22 : decode (cod 106) 22 = .ok (.iload_n 3, 1) := by decide +kernel
theorem d106_23 : decode (cod 106) 23 = .ok (.aload_n 0, 1) := by decide +kernel
theorem d106_24 : decode (cod 106) 24 = .ok (.iload_n 1, 1) := by decide +kernel
theorem d106_25 : decode (cod 106) 25 = .ok (.iload 4, 2) := by decide +kernel
theorem d106_27 : decode (cod 106) 27 = .ok (.invokevirtual 131, 3) := by decide +kernel
theorem d106_30 : decode (cod 106) 30 = .ok (.iadd, 1) := by decide +kernel
theorem d106_31 : decode (cod 106) 31 = .ok (.istore_n 3, 1) := by decide +kernel
theorem d106_32 : decode (cod 106) 32 = .ok (.iinc 4 30, 3) := by decide +kernel
theorem d106_35 : decode (cod 106) 35 = .ok (.goto (-19), 3) := by decide +kernel
theorem d106_38 : decode (cod 106) 38 = .ok (.iload_n 3, 1) := by decide +kernel
theorem d106_39 : decode (cod 106) 39 = .ok (.aload_n 0, 1) := by decide +kernel
theorem d106_40 : decode (cod 106) 40 = .ok (.getfield 46, 3) := by decide +kernel
theorem d106_43 : decode (cod 106) 43 = .ok (.iload_n 1, 1) := by decide +kernel
theorem d106_44 : decode (cod 106) 44 = .ok (.iconst 0, 1) := by decide +kernel
theorem d106_45 : decode (cod 106) 45 = .ok (.iload_n 2, 1) := by decide +kernel
theorem d106_46 : decode (cod 106) 46 = .ok (.invokevirtual 134, 3) := by decide +kernel
theorem d106_49 : decode (cod 106) 49 = .ok (.isub, 1) := by decide +kernel
theorem d106_50 : decode (cod 106) 50 = .ok (.ireturn, 1) := by decide +kernel
theorem d107_0 : decode (cod 107) 0 = .ok (.aload_n 0, 1) := by decide +kernel
theorem d107_1 : decode (cod 107) 1 = .ok (.iload_n 1, 1) := by decide +kernel
theorem d107_2 : decode (cod 107) 2 = .ok (.aload_n 0, 1) := by decide +kernel
theorem d107_3 : decode (cod 107) 3 = .ok (.invokevirtual 137, 3) := by decide +kernel
theorem d107_6 : decode (cod 107) 6 = .ok (.invokevirtual 141, 3) := by decide +kernel
theorem d107_9 : decode (cod 107) 9 = .ok (.istore_n 2, 1) := by decide +kernel
theorem d107_10 : decode (cod 107) 10 = .ok (.iload_n 2, 1) := by decide +kernel
theorem d107_11 : decode (cod 107) 11 = .ok (.ifCond .gt 6, 3) := by decide +kernel
theorem d107_14 : decode (cod 107) 14 = .ok (.bipush (-5), 2) := by decide +kernel
theorem d107_16 : decode (cod 107) 16 = .ok (.ireturn, 1) := by decide +kernel
theorem d107_17 : decode (cod 107) 17 = .ok (.aload_n 0, 1) := by decide +kernel
theorem d107_18 : decode (cod 107) 18 = .ok (.invokevirtual 137, 3) := by decide +kernel
theorem d107_21 : decode (cod 107) 21 = .ok (.istore_n 3, 1) := by decide +kernel
theorem d107_22 : decode (cod 107) 22 = .ok (.iload_n 3, 1) := by decide +kernel
theorem d107_23 : decode (cod 107) 23 = .ok (.ifCond .le 35, 3) := by decide +kernel
theorem d107_26 : decode (cod 107) 26 = .ok (.iload_n 2, 1) := by decide +kernel
theorem d107_27 : decode (cod 107) 27 = .ok (.aload_n 0, 1) := by decide +kernel
theorem d107_28 : decode (cod 107) 28 = .ok (.getfield 46, 3) := by decide +kernel
theorem d107_31 : decode (cod 107) 31 = .ok (.iload_n 1, 1) := by decide +kernel
theorem d107_32 : decode (cod 107) 32 = .ok (.iload_n 3, 1) := by decide +kernel
theorem d107_33 : decode (cod 107) 33 = .ok (.iload_n 3, 1) := by decide +kernel
theorem d107_34 : decode (cod 107) 34 = .ok (.invokevirtual 134, 3) := by decide +kernel
theorem d107_37 : decode (cod 107) 37 = .ok (.aload_n 0, 1) := by decide +kernel
theorem d107_38 : decode (cod 107) 38 = .ok (.iload_n 1, 1) := by decide +kernel
theorem d107_39 : decode (cod 107) 39 = .ok (.iload_n 3, 1) := by decide +kernel
theorem d107_40 : decode (cod 107) 40 = .ok (.invokevirtual 131, 3) := by decide +kernel
theorem d107_43 : decode (cod 107) 43 = .ok (.isub, 1) := by decide +kernel
theorem d107_44 : decode (cod 107) 44 = .ok (.iadd, 1) := by decide +kernel
theorem d107_45 : decode (cod 107) 45 = .ok (.istore_n 2, 1) := by decide +kernel
theorem d107_46 : decode (cod 107) 46 = .ok (.iload_n 2, 1) := by decide +kernel
theorem d107_47 : decode (cod 107) 47 = .ok (.ifCond .gt 5, 3) := by decide +kernel
theorem d107_50 : decode (cod 107) 50 = .ok (.iload_n 3, 1) := by decide +kernel
theorem d107_51 : decode (cod 107) 51 = .ok (.ireturn, 1) := by decide +kernel
theorem d107_52 : decode (cod 107) 52 = .ok (.iinc 3 (-1), 3) := by decide +kernel
theorem d107_55 : decode (cod 107) 55 = .ok (.goto (-33), 3) := by decide +kernel
theorem d107_58 : decode (cod 107) 58 = .ok (.iconst 0, 1) := by decide +kernel
theorem d107_59 : decode (cod 107) 59 = .ok (.ireturn, 1) := by decide +kernel
theorem d108_0 : decode (cod 108) 0 = .ok (.aload_n 0, 1) := by decide +kernel
theorem d108_1 : decode (cod 108) 1 = .ok (.invokespecial 3, 3) := by decide +kernel
theorem d108_4 : decode (cod 108) 4 = .ok (.aload_n 0, 1) := by decide +kernel
theorem d108_5 : decode (cod 108) 5 = .ok (.new 9, 3) := by decide +kernel
theorem d108_8 : decode (cod 108) 8 = .ok (.dup, 1) := by decide +kernel
theorem d108_9 : decode (cod 108) 9 = .ok (.invokespecial 11, 3) := by decide +kernel
theorem d108_12 : decode (cod 108) 12 = .ok (.putfield 12, 3) := by decide +kernel
theorem d108_15 : decode (cod 108) 15 = .ok (.aload_n 0, 1) := by decide +kernel
theorem d108_16 : decode (cod 108) 16 = .ok (.new 16, 3) := by decide +kernel
theorem d108_19 : decode (cod 108) 19 = .ok (.dup, 1) := by decide +kernel
theorem d108_20 : decode (cod 108) 20 = .ok (.invokespecial 18, 3) := by decide +kernel
theorem d108_23 : decode (cod 108) 23 = .ok (.putfield 19, 3) := by decide +kernel
theorem d108_26 : decode (cod 108) 26 = .ok (.aload_n 0, 1) := by decide +kernel
theorem d108_27 : decode (cod 108) 27 = .ok (.new 23, 3) := by decide +kernel
theorem d108_30 : decode (cod 108) 30 = .ok (.dup, 1) := by decide +kernel
theorem d108_31 : decode (cod 108) 31 = .ok (.invokespecial 25, 3) := by decide +kernel
theorem d108_34 : decode (cod 108) 34 = .ok (.putfield 26, 3) := by decide +kernel
theorem d108_37 : decode (cod 108) 37 = .ok (.aload_n 0, 1) := by decide +kernel
theorem d108_38 : decode (cod 108) 38 = .ok (.new 30, 3) := by decide +kernel
theorem d108_41 : decode (cod 108) 41 = .ok (.dup, 1) := by decide +kernel
theorem d108_42 : decode (cod 108) 42 = .ok (.invokespecial 32, 3) := by decide +kernel
theorem d108_45 : decode (cod 108) 45 = .ok (.putfield 33, 3) := by decide +kernel
theorem d108_48 : decode (cod 108) 48 = .ok (.aload_n 0, 1) := by decide +kernel
theorem d108_49 : decode (cod 108) 49 = .ok (.aconst_null, 1) := by decide +kernel
theorem d108_50 : decode (cod 108) 50 = .ok (.putfield 37, 3) := by decide +kernel
theorem d108_53 : decode (cod 108) 53 = .ok (.return_, 1) := by decide +kernel
theorem d109_0 : decode (cod 109) 0 = .ok (.iload_n 1, 1) := by decide +kernel
theorem d109_1 : decode (cod 109) 1 = .ok (.iconst 0, 1) := by decide +kernel
theorem d109_2 : decode (cod 109) 2 = .ok (.iconst 3, 1) := by decide +kernel
theorem d109_3 : decode (cod 109) 3 = .ok (.invokestatic 40, 3) := by decide +kernel
theorem d109_6 : decode (cod 109) 6 = .ok (.ifCond .eq 13, 3) := by decide +kernel
theorem d109_9 : decode (cod 109) 9 = .ok (.iload_n 2, 1) := by decide +kernel
theorem d109_10 : decode (cod 109) 10 = .ok (.iconst 0, 1) := by decide +kernel
theorem d109_11 : decode (cod 109) 11 = .ok (.bipush 9, 2) := by decide +kernel
theorem d109_13 : decode (cod 109) 13 = .ok (.invokestatic 40, 3) := by decide +kernel
theorem d109_16 : decode (cod 109) 16 = .ok (.ifCond .ne 5, 3) := by decide +kernel
theorem d109_19 : decode (cod 109) 19 = .ok (.iconst (-1), 1) := by decide +kernel
theorem d109_20 : decode (cod 109) 20 = .ok (.ireturn, 1) := by decide +kernel
theorem d109_21 : decode (cod 109) 21 = .ok (.iload_n 3, 1) := by decide +kernel
theorem d109_22 : decode (cod 109) 22 = .ok (.iconst 0, 1) := by decide +kernel
theorem d109_23 : decode (cod 109) 23 = .ok (.bipush 9, 2) := by decide +kernel
theorem d109_25 : decode (cod 109) 25 = .ok (.invokestatic 40, 3) := by decide +kernel
theorem d109_28 : decode (cod 109) 28 = .ok (.ifCond .ne 6, 3) := by decide +kernel
theorem d109_31 : decode (cod 109) 31 = .ok (.bipush (-2), 2) := by decide +kernel
theorem d109_33 : decode (cod 109) 33 = .ok (.ireturn, 1) := by decide +kernel
theorem d109_34 : decode (cod 109) 34 = .ok (.aload_n 0, 1) := by decide +kernel
theorem d109_35 : decode (cod 109) 35 = .ok (.getfield 12, 3) := by decide +kernel
theorem d109_38 : decode (cod 109) 38 = .ok (.getfield 44, 3) := by decide +kernel
theorem d109_41 : decode (cod 109) 41 = .ok (.getfield 48, 3) := by decide +kernel
theorem d109_44 : decode (cod 109) 44 = .ok (.bipush 12, 2) := by decide +kernel
theorem d109_46 : decode (cod 109) 46 = .ok (.if_icmp .lt 6, 3) := by decide +kernel
theorem d109_49 : decode (cod 109) 49 = .ok (.bipush (-4), 2) := by decide +kernel
theorem d109_51 : decode (cod 109) 51 = .ok (.ireturn, 1) := by decide +kernel
theorem d109_52 : decode (cod 109) 52 = .ok (.aload_n 0, 1) := by decide +kernel
theorem d109_53 : decode (cod 109) 53 = .ok (.getfield 12, 3) := by decide +kernel
theorem d109_56 : decode (cod 109) 56 = .ok (.getfield 44, 3) := by decide +kernel
theorem d109_59 : decode (cod 109) 59 = .ok (.iload_n 1, 1) := by decide +kernel
theorem d109_60 : decode (cod 109) 60 = .ok (.iload_n 2, 1) := by decide +kernel
theorem d109_61 : decode (cod 109) 61 = .ok (.iload_n 3, 1) := by decide +kernel
theorem d109_62 : decode (cod 109) 62 = .ok (.aload_n 0, 1) := by decide +kernel
theorem d109_63 : decode (cod 109) 63 = .ok (.getfield 12, 3) := by decide +kernel
theorem d109_66 : decode (cod 109) 66 = .ok (.invokevirtual 54, 3) := by decide +kernel
theorem d109_69 : decode (cod 109) 69 = .ok (.invokevirtual 58, 3) := by decide +kernel
theorem d109_72 : decode (cod 109) 72 = .ok (.ireturn, 1) := by decide +kernel
theorem d110_0 : decode (cod 110) 0 = .ok (.aload_n 0, 1) := by decide +kernel
theorem d110_1 : decode (cod 110) 1 = .ok (.getfield 12, 3) := by decide +kernel
theorem d110_4 : decode (cod 110) 4 = .ok (.getfield 44, 3) := by decide +kernel
theorem d110_7 : decode (cod 110) 7 = .ok (.iload_n 1, 1) := by decide +kernel
theorem d110_8 : decode (cod 110) 8 = .ok (.invokevirtual 62, 3) := by decide +kernel
theorem d110_11 : decode (cod 110) 11 = .ok (.ifCond .ne 5, 3) := by decide +kernel
theorem d110_14 : decode (cod 110) 14 = .ok (.iconst (-1), 1) := by decide +kernel
theorem d110_15 : decode (cod 110) 15 = .ok (.ireturn, 1) := by decide +kernel
theorem d110_16 : decode (cod 110) 16 = .ok (.iload_n 2, 1) := by decide +kernel
theorem d110_17 : decode (cod 110) 17 = .ok (.iconst 0, 1) := by decide +kernel
theorem d110_18 : decode (cod 110) 18 = .ok (.iconst 4, 1) := by decide +kernel
theorem d110_19 : decode (cod 110) 19 = .ok (.invokestatic 40, 3) := by decide +kernel
theorem d110_22 : decode (cod 110) 22 = .ok (.ifCond .eq 16, 3) := by decide +kernel
theorem d110_25 : decode (cod 110) 25 = .ok (.iload_n 3, 1) := by decide +kernel
theorem d110_26 : decode (cod 110) 26 = .ok (.iconst 0, 1) := by decide +kernel
theorem d110_27 : decode (cod 110) 27 = .ok (.iconst 1, 1) := by decide +kernel
theorem d110_28 : decode (cod 110) 28 = .ok (.iload_n 2, 1) := by decide +kernel
theorem d110_29 : decode (cod 110) 29 = .ok (.ishl, 1) := by decide +kernel
theorem d110_30 : decode (cod 110) 30 = .ok (.iconst 1, 1) := by decide +kernel
theorem d110_31 : decode (cod 110) 31 = .ok (.isub, 1) := by decide +kernel
theorem d110_32 : decode (cod 110) 32 = .ok (.invokestatic 40, 3) := by decide +kernel
theorem d110_35 : decode (cod 110) 35 = .ok (.ifCond .ne 6, 3) := by decide +kernel
theorem d110_38 : decode (cod 110) 38 = .ok (.bipush (-2), 2) := by decide +kernel
theorem d110_40 : decode (cod 110) 40 = .ok (.ireturn, 1) := by decide +kernel
theorem d110_41 : decode (cod 110) 41 = .ok (.aload_n 0, 1) := by decide +kernel
theorem d110_42 : decode (cod 110) 42 = .ok (.getfield 12, 3) := by decide +kernel
theorem d110_45 : decode (cod 110) 45 = .ok (.getfield 44, 3) := by decide +kernel
theorem d110_48 : decode (cod 110) 48 = .ok (.getfield 66, 3) := by decide +kernel
theorem d110_51 : decode (cod 110) 51 = .ok (.iload_n 1, 1) := by decide +kernel
theorem d110_52 : decode (cod 110) 52 = .ok (.iaload, 1) := by decide +kernel
theorem d110_53 : decode (cod 110) 53 = .ok (.istore 4, 2) := by decide +kernel
theorem d110_55 : decode (cod 110) 55 = .ok (.aload_n 0, 1) := by decide +kernel
theorem d110_56 : decode (cod 110) 56 = .ok (.getfield 12, 3) := by decide +kernel
theorem d110_59 : decode (cod 110) 59 = .ok (.getfield 44, 3) := by decide +kernel
theorem d110_62 : decode (cod 110) 62 = .ok (.getfield 66, 3) := by decide +kernel
theorem d110_65 : decode (cod 110) 65 = .ok (.iload_n 1, 1) := by decide +kernel
theorem d110_66 : decode (cod 110) 66 = .ok (.bipush 16, 2) := by decide +kernel
theorem d110_68 : decode (cod 110) 68 = .ok (.iload_n 2, 1) := by decide +kernel
theorem d110_69 : decode (cod 110) 69 = .ok (.imul, 1) := by decide +kernel
theorem d110_70 : decode (cod 110) 70 = .ok (.iload_n 3, 1) := by decide +kernel
theorem d110_71 : decode (cod 110) 71 = .ok (.iadd, 1) := by decide +kernel
theorem d110_72 : decode (cod 110) 72 = .ok (.iastore, 1) := by decide +kernel
theorem d110_73 : decode (cod 110) 73 = .ok (.iload 4, 2) := by decide +kernel
theorem d110_75 : decode (cod 110) 75 = .ok (.ireturn, 1) := by decide +kernel
theorem d111_0 : decode (cod 111) 0 = .ok (.aload_n 0, 1) := by decide +kernel
theorem d111_1 : decode (cod 111) 1 = .ok (.getfield 12, 3) := by decide +kernel
theorem d111_4 : decode (cod 111) 4 = .ok (.getfield 44, 3) := by decide +kernel
theorem d111_7 : decode (cod 111) 7 = .ok (.iload_n 1, 1) := by decide +kernel
theorem d111_8 : decode (cod 111) 8 = .ok (.invokevirtual 62, 3) := by decide +kernel
theorem d111_11 : decode (cod 111) 11 = .ok (.ifCond .eq 17, 3) := by decide +kernel
theorem d111_14 : decode (cod 111) 14 = .ok (.aload_n 0, 1) := by decide +kernel
theorem d111_15 : decode (cod 111) 15 = .ok (.getfield 12, 3) := by decide +kernel
theorem d111_18 : decode (cod 111) 18 = .ok (.getfield 44, 3) := by decide +kernel
theorem d111_21 : decode (cod 111) 21 = .ok (.iload_n 2, 1) := by decide +kernel
theorem d111_22 : decode (cod 111) 22 = .ok (.invokevirtual 62, 3) := by decide +kernel
theorem d111_25 : decode (cod 111) 25 = .ok (.ifCond .ne 5, 3) := by decide +kernel
theorem d111_28 : decode (cod 111) 28 = .ok (.iconst (-1), 1) := by decide +kernel
theorem d111_29 : decode (cod 111) 29 = .ok (.ireturn, 1) := by decide +kernel
theorem d111_30 : decode (cod 111) 30 = .ok (.iload_n 1, 1) := by decide +kernel
theorem d111_31 : decode (cod 111) 31 = .ok (.iload_n 2, 1) := by decide +kernel
theorem d111_32 : decode (cod 111) 32 = .ok (.if_icmp .ne 6, 3) := by decide +kernel
theorem d111_35 : decode (cod 111) 35 = .ok (.bipush (-2), 2) := by decide +kernel
theorem d111_37 : decode (cod 111) 37 = .ok (.ireturn, 1) := by decide +kernel
theorem d111_38 : decode (cod 111) 38 = .ok (.aload_n 0, 1) := by decide +kernel
theorem d111_39 : decode (cod 111) 39 = .ok (.getfield 12, 3) := by decide +kernel
theorem d111_42 : decode (cod 111) 42 = .ok (.getfield 44, 3) := by decide +kernel
theorem d111_45 : decode (cod 111) 45 = .ok (.getfield 66, 3) := by decide +kernel
theorem d111_48 : decode (cod 111) 48 = .ok (.iload_n 1, 1) := by decide +kernel
theorem d111_49 : decode (cod 111) 49 = .ok (.iaload, 1) := by decide +kernel
theorem d111_50 : decode (cod 111) 50 = .ok (.aload_n 0, 1) := by decide +kernel
theorem d111_51 : decode (cod 111) 51 = .ok (.getfield 12, 3) := by decide +kernel
theorem d111_54 : decode (cod 111) 54 = .ok (.getfield 44, 3) := by decide +kernel
theorem d111_57 : decode (cod 111) 57 = .ok (.getfield 66, 3) := by decide +kernel
theorem d111_60 : decode (cod 111) 60 = .ok (.iload_n 2, 1) := by decide +kernel
theorem d111_61 : decode (cod 111) 61 = .ok (.iaload, 1) := by decide +kernel
theorem d111_62 : decode (cod 111) 62 = .ok (.invokestatic 70, 3) := by decide +kernel
theorem d111_65 : decode (cod 111) 65 = .ok (.ireturn, 1) := by decide +kernel
theorem d112_0 : decode (cod 112) 0 = .ok (.iload_n 1, 1) := by decide +kernel
theorem d112_1 : decode (cod 112) 1 = .ok (.iconst 0, 1) := by decide +kernel
theorem d112_2 : decode (cod 112) 2 = .ok (.iconst 3, 1) := by decide +kernel
theorem d112_3 : decode (cod 112) 3 = .ok (.invokestatic 40, 3) := by decide +kernel
theorem d112_6 : decode (cod 112) 6 = .ok (.ifCond .ne 5, 3) := by decide +kernel
theorem d112_9 : decode (cod 112) 9 = .ok (.iconst (-1), 1) := by decide +kernel
theorem d112_10 : decode (cod 112) 10 = .ok (.ireturn, 1) := by decide +kernel
theorem d112_11 : decode (cod 112) 11 = .ok (.aload_n 0, 1) := by decide +kernel
theorem d112_12 : decode (cod 112) 12 = .ok (.getfield 12, 3) := by decide +kernel
theorem d112_15 : decode (cod 112) 15 = .ok (.getfield 44, 3) := by decide +kernel
theorem d112_18 : decode (cod 112) 18 = .ok (.iload_n 1, 1) := by decide +kernel
theorem d112_19 : decode (cod 112) 19 = .ok (.invokestatic 74, 3) := by decide +kernel
theorem d112_22 : decode (cod 112) 22 = .ok (.ireturn, 1) := by decide +kernel
theorem d113_0 : decode (cod 113) 0 = .ok (.iload_n 1, 1) := by decide +kernel
theorem d113_1 : decode (cod 113) 1 = .ok (.iconst 0, 1) := by decide +kernel
theorem d113_2 : decode (cod 113) 2 = .ok (.iconst 3, 1) := by decide +kernel
theorem d113_3 : decode (cod 113) 3 = .ok (.invokestatic 40, 3) := by decide +kernel
theorem d113_6 : decode (cod 113) 6 = .ok (.ifCond .ne 5, 3) := by decide +kernel
theorem d113_9 : decode (cod 113) 9 = .ok (.iconst (-1), 1) := by decide +kernel
theorem d113_10 : decode (cod 113) 10 = .ok (.ireturn, 1) := by decide +kernel
theorem d113_11 : decode (cod 113) 11 = .ok (.iconst 5, 1) := by decide +kernel
theorem d113_12 : decode (cod 113) 12 = .ok (.aload_n 0, 1) := by decide +kernel
theorem d113_13 : decode (cod 113) 13 = .ok (.getfield 12, 3) := by decide +kernel
theorem d113_16 : decode (cod 113) 16 = .ok (.getfield 44, 3) := by decide +kernel
theorem d113_19 : decode (cod 113) 19 = .ok (.iload_n 1, 1) := by decide +kernel
theorem d113_20 : decode (cod 113) 20 = .ok (.invokevirtual 78, 3) := by decide +kernel
theorem d113_23 : decode (cod 113) 23 = .ok (.invokestatic 82, 3) := by decide +kernel
theorem d113_26 : decode (cod 113) 26 = .ok (.invokestatic 87, 3) := by decide +kernel
theorem d113_29 : decode (cod 113) 29 = .ok (.istore 4, 2) := by decide +kernel
theorem d113_31 : decode (cod 113) 31 = .ok (.iload_n 3, 1) := by decide +kernel
theorem d113_32 : decode (cod 113) 32 = .ok (.iconst (-1), 1) := by decide +kernel
theorem d113_33 : decode (cod 113) 33 = .ok (.iload 4, 2) := by decide +kernel
theorem d113_35 : decode (cod 113) 35 = .ok (.iconst 1, 1) := by decide +kernel
theorem d113_36 : decode (cod 113) 36 = .ok (.isub, 1) := by decide +kernel
theorem d113_37 : decode (cod 113) 37 = .ok (.invokestatic 40, 3) := by decide +kernel
theorem d113_40 : decode (cod 113) 40 = .ok (.ifCond .ne 5, 3) := by decide +kernel
theorem d113_43 : decode (cod 113) 43 = .ok (.iconst (-1), 1) := by decide +kernel
theorem d113_44 : decode (cod 113) 44 = .ok (.ireturn, 1) := by decide +kernel
theorem d113_45 : decode (cod 113) 45 = .ok (.iload_n 2, 1) := by decide +kernel
theorem d113_46 : decode (cod 113) 46 = .ok (.iconst 1, 1) := by decide +kernel
theorem d113_47 : decode (cod 113) 47 = .ok (.iconst 3, 1) := by decide +kernel
theorem d113_48 : decode (cod 113) 48 = .ok (.invokestatic 40, 3) := by decide +kernel
theorem d113_51 : decode (cod 113) 51 = .ok (.ifCond .ne 6, 3) := by decide +kernel
theorem d113_54 : decode (cod 113) 54 = .ok (.bipush (-2), 2) := by decide +kernel
theorem d113_56 : decode (cod 113) 56 = .ok (.ireturn, 1) := by decide +kernel
theorem d113_57 : decode (cod 113) 57 = .ok (.aload_n 0, 1) := by decide +kernel
theorem d113_58 : decode (cod 113) 58 = .ok (.getfield 26, 3) := by decide +kernel
theorem d113_61 : decode (cod 113) 61 = .ok (.iload 4, 2) := by decide +kernel
theorem d113_63 : decode (cod 113) 63 = .ok (.iload_n 2, 1) := by decide +kernel
theorem d113_64 : decode (cod 113) 64 = .ok (.invokevirtual 92, 3) := by decide +kernel
theorem d113_67 : decode (cod 113) 67 = .ok (.ifCond .ne 6, 3) := by decide +kernel
theorem d113_70 : decode (cod 113) 70 = .ok (.bipush (-5), 2) := by decide +kernel
theorem d113_72 : decode (cod 113) 72 = .ok (.ireturn, 1) := by decide +kernel
theorem d113_73 : decode (cod 113) 73 = .ok (.iload_n 3, 1) := by decide +kernel
theorem d113_74 : decode (cod 113) 74 = .ok (.ifCond .ge 13, 3) := by decide +kernel
theorem d113_77 : decode (cod 113) 77 = .ok (.aload_n 0, 1) := by decide +kernel
theorem d113_78 : decode (cod 113) 78 = .ok (.getfield 26, 3) := by decide +kernel
theorem d113_81 : decode (cod 113) 81 = .ok (.getfield 96, 3) := by decide +kernel
theorem d113_84 : decode (cod 113) 84 = .ok (.goto 12, 3) := by decide +kernel
theorem d113_87 : decode (cod 113) 87 = .ok (.aload_n 0, 1) := by decide +kernel
theorem d113_88 : decode (cod 113) 88 = .ok (.getfield 26, 3) := by decide +kernel
theorem d113_91 : decode (cod 113) 91 = .ok (.getfield 99, 3) := by decide +kernel
theorem d113_94 : decode (cod 113) 94 = .ok (.iload_n 3, 1) := by decide +kernel
theorem d113_95 : decode (cod 113) 95 = .ok (.iaload, 1) := by decide +kernel
theorem d113_96 : decode (cod 113) 96 = .ok (.ireturn, 1) := by decide +kernel
theorem d114_0 : decode (cod 114) 0 = .ok (.iload_n 3, 1) := by decide +kernel
theorem d114_1 : decode (cod 114) 1 = .ok (.iconst 1, 1) := by decide +kernel
theorem d114_2 : decode (cod 114) 2 = .ok (.bipush 8, 2) := by decide +kernel
theorem d114_4 : decode (cod 114) 4 = .ok (.invokestatic 40, 3) := by decide +kernel
theorem d114_7 : decode (cod 114) 7 = .ok (.ifCond .ne 6, 3) := by decide +kernel
theorem d114_10 : decode (cod 114) 10 = .ok (.bipush (-2), 2) := by decide +kernel
theorem d114_12 : decode (cod 114) 12 = .ok (.ireturn, 1) := by decide +kernel
theorem d114_13 : decode (cod 114) 13 = .ok (.aload_n 0, 1) := by decide +kernel
theorem d114_14 : decode (cod 114) 14 = .ok (.getfield 12, 3) := by decide +kernel
theorem d114_17 : decode (cod 114) 17 = .ok (.getfield 102, 3) := by decide +kernel
theorem d114_20 : decode (cod 114) 20 = .ok (.getfield 106, 3) := by decide +kernel
theorem d114_23 : decode (cod 114) 23 = .ok (.getfield 112, 3) := by decide +kernel
theorem d114_26 : decode (cod 114) 26 = .ok (.iload_n 3, 1) := by decide +kernel
theorem d114_27 : decode (cod 114) 27 = .ok (.iadd, 1) := by decide +kernel
theorem d114_28 : decode (cod 114) 28 = .ok (.bipush 120, 2) := by decide +kernel
theorem d114_30 : decode (cod 114) 30 = .ok (.if_icmp .le 6, 3) := by decide +kernel
theorem d114_33 : decode (cod 114) 33 = .ok (.bipush (-4), 2) := by decide +kernel
theorem d114_35 : decode (cod 114) 35 = .ok (.ireturn, 1) := by decide +kernel
theorem d114_36 : decode (cod 114) 36 = .ok (.aload_n 0, 1) := by decide +kernel
theorem d114_37 : decode (cod 114) 37 = .ok (.getfield 12, 3) := by decide +kernel
theorem d114_40 : decode (cod 114) 40 = .ok (.getfield 102, 3) := by decide +kernel
theorem d114_43 : decode (cod 114) 43 = .ok (.getfield 106, 3) := by decide +kernel
theorem d114_46 : decode (cod 114) 46 = .ok (.lload_n 1, 1) := by decide +kernel
theorem d114_47 : decode (cod 114) 47 = .ok (.iload_n 3, 1) := by decide +kernel
theorem d114_48 : decode (cod 114) 48 = .ok (.invokevirtual 115, 3) := by decide +kernel
theorem d114_51 : decode (cod 114) 51 = .ok (.ireturn, 1) := by decide +kernel
theorem d115_0 : decode (cod 115) 0 = .ok (.iload_n 1, 1) := by decide +kernel
theorem d115_1 : decode (cod 115) 1 = .ok (.iconst 0, 1) := by decide +kernel
theorem d115_2 : decode (cod 115) 2 = .ok (.sipush 400, 3) := by decide +kernel
theorem d115_5 : decode (cod 115) 5 = .ok (.invokestatic 40, 3) := by decide +kernel
theorem d115_8 : decode (cod 115) 8 = .ok (.ifCond .ne 6, 3) := by decide +kernel
theorem d115_11 : decode (cod 115) 11 = .ok (.bipush (-2), 2) := by decide +kernel
theorem d115_13 : decode (cod 115) 13 = .ok (.ireturn, 1) := by decide +kernel
theorem d115_14 : decode (cod 115) 14 = .ok (.aload_n 0, 1) := by decide +kernel
theorem d115_15 : decode (cod 115) 15 = .ok (.getfield 12, 3) := by decide +kernel
theorem d115_18 : decode (cod 115) 18 = .ok (.getfield 102, 3) := by decide +kernel
theorem d115_21 : decode (cod 115) 21 = .ok (.getfield 119, 3) := by decide +kernel
theorem d115_24 : decode (cod 115) 24 = .ok (.bipush 10, 2) := by decide +kernel
theorem d115_26 : decode (cod 115) 26 = .ok (.if_icmp .lt 6, 3) := by decide +kernel
theorem d115_29 : decode (cod 115) 29 = .ok (.bipush (-4), 2) := by decide +kernel
theorem d115_31 : decode (cod 115) 31 = .ok (.ireturn, 1) := by decide +kernel
theorem d115_32 : decode (cod 115) 32 = .ok (.aload_n 0, 1) := by decide +kernel
theorem d115_33 : decode (cod 115) 33 = .ok (.getfield 12, 3) := by decide +kernel
theorem d115_36 : decode (cod 115) 36 = .ok (.getfield 102, 3) := by decide +kernel
theorem d115_39 : decode (cod 115) 39 = .ok (.invokevirtual 120, 3) := by decide +kernel
theorem d115_42 : decode (cod 115) 42 = .ok (.istore_n 2, 1) := by decide +kernel
theorem d115_43 : decode (cod 115) 43 = .ok (.iload_n 2, 1) := by decide +kernel
theorem d115_44 : decode (cod 115) 44 = .ok (.ifCond .lt 10, 3) := by decide +kernel
theorem d115_47 : decode (cod 115) 47 = .ok (.bipush (-10), 2) := by decide +kernel
theorem d115_49 : decode (cod 115) 49 = .ok (.iload_n 2, 1) := by decide +kernel
theorem d115_50 : decode (cod 115) 50 = .ok (.isub, 1) := by decide +kernel
theorem d115_51 : decode (cod 115) 51 = .ok (.goto 14, 3) := by decide +kernel
theorem d115_54 : decode (cod 115) 54 = .ok (.aload_n 0, 1) := by decide +kernel
theorem d115_55 : decode (cod 115) 55 = .ok (.getfield 12, 3) := by decide +kernel
theorem d115_58 : decode (cod 115) 58 = .ok (.getfield 102, 3) := by decide +kernel
theorem d115_61 : decode (cod 115) 61 = .ok (.iload_n 1, 1) := by decide +kernel
theorem d115_62 : decode (cod 115) 62 = .ok (.invokevirtual 123, 3) := by decide +kernel
theorem d115_65 : decode (cod 115) 65 = .ok (.ireturn, 1) := by decide +kernel
theorem d116_0 : decode (cod 116) 0 = .ok (.aload_n 0, 1) := by decide +kernel
theorem d116_1 : decode (cod 116) 1 = .ok (.iload_n 1, 1) := by decide +kernel
theorem d116_2 : decode (cod 116) 2 = .ok (.iload_n 2, 1) := by decide +kernel
theorem d116_3 : decode (cod 116) 3 = .ok (.invokevirtual 126, 3) := by decide +kernel
theorem d116_6 : decode (cod 116) 6 = .ok (.ifCond .ne 5, 3) := by decide +kernel
theorem d116_9 : decode (cod 116) 9 = .ok (.iconst (-1), 1) := by decide +kernel
theorem d116_10 : decode (cod 116) 10 = .ok (.ireturn, 1) := by decide +kernel
theorem d116_11 : decode (cod 116) 11 = .ok (.iload_n 3, 1) := by decide +kernel
theorem d116_12 : decode (cod 116) 12 = .ok (.iconst 0, 1) := by decide +kernel
theorem d116_13 : decode (cod 116) 13 = .ok (.sipush 400, 3) := by decide +kernel
theorem d116_16 : decode (cod 116) 16 = .ok (.invokestatic 40, 3) := by decide +kernel
theorem d116_19 : decode (cod 116) 19 = .ok (.ifCond .ne 6, 3) := by decide +kernel
theorem d116_22 : decode (cod 116) 22 = .ok (.bipush (-2), 2) := by decide +kernel
theorem d116_24 : decode (cod 116) 24 = .ok (.ireturn, 1) := by decide +kernel
theorem d116_25 : decode (cod 116) 25 = .ok (.aload_n 0, 1) := by decide +kernel
theorem d116_26 : decode (cod 116) 26 = .ok (.getfield 12, 3) := by decide +kernel
theorem d116_29 : decode (cod 116) 29 = .ok (.iload_n 1, 1) := by decide +kernel
theorem d116_30 : decode (cod 116) 30 = .ok (.iload_n 2, 1) := by decide +kernel
theorem d116_31 : decode (cod 116) 31 = .ok (.iload_n 3, 1) := by decide +kernel
theorem d116_32 : decode (cod 116) 32 = .ok (.invokevirtual 129, 3) := by decide +kernel
theorem d116_35 : decode (cod 116) 35 = .ok (.ireturn, 1) := by decide +kernel
theorem d117_0 : decode (cod 117) 0 = .ok (.aload_n 0, 1) := by decide +kernel
theorem d117_1 : decode (cod 117) 1 = .ok (.iload_n 1, 1) := by decide +kernel
theorem d117_2 : decode (cod 117) 2 = .ok (.iload_n 2, 1) := by decide +kernel
theorem d117_3 : decode (cod 117) 3 = .ok (.invokevirtual 126, 3) := by decide +kernel
theorem d117_6 : decode (cod 117) 6 = .ok (.ifCond .ne 5, 3) := by decide +kernel
theorem d117_9 : decode (cod 117) 9 = .ok (.iconst (-1), 1) := by decide +kernel
theorem d117_10 : decode (cod 117) 10 = .ok (.ireturn, 1) := by decide +kernel
theorem d117_11 : decode (cod 117) 11 = .ok (.iload_n 3, 1) := by decide +kernel
theorem d117_12 : decode (cod 117) 12 = .ok (.iconst 0, 1) := by decide +kernel
theorem d117_13 : decode (cod 117) 13 = .ok (.sipush 400, 3) := by decide +kernel
theorem d117_16 : decode (cod 117) 16 = .ok (.invokestatic 40, 3) := by decide +kernel
theorem d117_19 : decode (cod 117) 19 = .ok (.ifCond .ne 6, 3) := by decide +kernel
theorem d117_22 : decode (cod 117) 22 = .ok (.bipush (-2), 2) := by decide +kernel
theorem d117_24 : decode (cod 117) 24 = .ok (.ireturn, 1) := by decide +kernel
theorem d117_25 : decode (cod 117) 25 = .ok (.aload_n 0, 1) := by decide +kernel
theorem d117_26 : decode (cod 117) 26 = .ok (.getfield 12, 3) := by decide +kernel
theorem d117_29 : decode (cod 117) 29 = .ok (.iload_n 2, 1) := by decide +kernel
theorem d117_30 : decode (cod 117) 30 = .ok (.invokevirtual 133, 3) := by decide +kernel
theorem d117_33 : decode (cod 117) 33 = .ok (.aload_n 0, 1) := by decide +kernel
theorem d117_34 : decode (cod 117) 34 = .ok (.getfield 12, 3) := by decide +kernel
theorem d117_37 : decode (cod 117) 37 = .ok (.getfield 102, 3) := by decide +kernel
theorem d117_40 : decode (cod 117) 40 = .ok (.iload_n 1, 1) := by decide +kernel
theorem d117_41 : decode (cod 117) 41 = .ok (.iload_n 3, 1) := by decide +kernel
theorem d117_42 : decode (cod 117) 42 = .ok (.invokevirtual 137, 3) := by decide +kernel
theorem d117_45 : decode (cod 117) 45 = .ok (.istore 4, 2) := by decide +kernel
theorem d117_47 : decode (cod 117) 47 = .ok (.iload 4, 2) := by decide +kernel
theorem d117_49 : decode (cod 117) 49 = .ok (.ifCond .ge 8, 3) := by decide +kernel
theorem d117_52 : decode (cod 117) 52 = .ok (.bipush (-5), 2) := by decide +kernel
theorem d117_54 : decode (cod 117) 54 = .ok (.goto 17, 3) := by decide +kernel
theorem d117_57 : decode (cod 117) 57 = .ok (.bipush 100, 2) := by decide +kernel
theorem d117_59 : decode (cod 117) 59 = .ok (.iload 4, 2) := by decide +kernel
theorem d117_61 : decode (cod 117) 61 = .ok (.bipush 8, 2) := by decide +kernel
theorem d117_63 : decode (cod 117) 63 = .ok (.idiv, 1) := by decide +kernel
theorem d117_64 : decode (cod 117) 64 = .ok (.imul, 1) := by decide +kernel
theorem d117_65 : decode (cod 117) 65 = .ok (.iload 4, 2) := by decide +kernel
theorem d117_67 : decode (cod 117) 67 = .ok (.bipush 8, 2) := by decide +kernel
theorem d117_69 : decode (cod 117) 69 = .ok (.irem, 1) := by decide +kernel
theorem d117_70 : decode (cod 117) 70 = .ok (.iadd, 1) := by decide +kernel
theorem d117_71 : decode (cod 117) 71 = .ok (.ireturn, 1) := by decide +kernel
theorem d118_0 : decode (cod 118) 0 = .ok (.aload_n 0, 1) := by decide +kernel
theorem d118_1 : decode (cod 118) 1 = .ok (.getfield 12, 3) := by decide +kernel
theorem d118_4 : decode (cod 118) 4 = .ok (.getfield 44, 3) := by decide +kernel
theorem d118_7 : decode (cod 118) 7 = .ok (.iload_n 1, 1) := by decide +kernel
theorem d118_8 : decode (cod 118) 8 = .ok (.invokevirtual 62, 3) := by decide +kernel
theorem d118_11 : decode (cod 118) 11 = .ok (.ifCond .eq 17, 3) := by decide +kernel
theorem d118_14 : decode (cod 118) 14 = .ok (.aload_n 0, 1) := by decide +kernel
theorem d118_15 : decode (cod 118) 15 = .ok (.getfield 12, 3) := by decide +kernel
theorem d118_18 : decode (cod 118) 18 = .ok (.getfield 44, 3) := by decide +kernel
theorem d118_21 : decode (cod 118) 21 = .ok (.iload_n 2, 1) := by decide +kernel
theorem d118_22 : decode (cod 118) 22 = .ok (.invokevirtual 62, 3) := by decide +kernel
theorem d118_25 : decode (cod 118) 25 = .ok (.ifCond .ne 5, 3) := by decide +kernel
theorem d118_28 : decode (cod 118) 28 = .ok (.iconst (-1), 1) := by decide +kernel
theorem d118_29 : decode (cod 118) 29 = .ok (.ireturn, 1) := by decide +kernel
theorem d118_30 : decode (cod 118) 30 = .ok (.iload_n 1, 1) := by decide +kernel
theorem d118_31 : decode (cod 118) 31 = .ok (.iload_n 2, 1) := by decide +kernel
theorem d118_32 : decode (cod 118) 32 = .ok (.if_icmp .eq 11, 3) := by decide +kernel
theorem d118_35 : decode (cod 118) 35 = .ok (.aload_n 0, 1) := by decide +kernel
theorem d118_36 : decode (cod 118) 36 = .ok (.iload_n 3, 1) := by decide +kernel
theorem d118_37 : decode (cod 118) 37 = .ok (.invokevirtual 140, 3) := by decide +kernel
theorem d118_40 : decode (cod 118) 40 = .ok (.ifCond .ne 6, 3) := by decide +kernel
theorem d118_43 : decode (cod 118) 43 = .ok (.bipush (-2), 2) := by decide +kernel
theorem d118_45 : decode (cod 118) 45 = .ok (.ireturn, 1) := by decide +kernel
theorem d118_46 : decode (cod 118) 46 = .ok (.aload_n 0, 1) := by decide +kernel
theorem d118_47 : decode (cod 118) 47 = .ok (.getfield 12, 3) := by decide +kernel
theorem d118_50 : decode (cod 118) 50 = .ok (.getfield 143, 3) := by decide +kernel
theorem d118_53 : decode (cod 118) 53 = .ok (.getfield 147, 3) := by decide +kernel
theorem d118_56 : decode (cod 118) 56 = .ok (.bipush 60, 2) := by decide +kernel
theorem d118_58 : decode (cod 118) 58 = .ok (.if_icmp .lt 6, 3) := by decide +kernel
theorem d118_61 : decode (cod 118) 61 = .ok (.bipush (-4), 2) := by decide +kernel
theorem d118_63 : decode (cod 118) 63 = .ok (.ireturn, 1) := by decide +kernel
theorem d118_64 : decode (cod 118) 64 = .ok (.aload_n 0, 1) := by decide +kernel
theorem d118_65 : decode (cod 118) 65 = .ok (.getfield 12, 3) := by decide +kernel
theorem d118_68 : decode (cod 118) 68 = .ok (.getfield 44, 3) := by decide +kernel
theorem d118_71 : decode (cod 118) 71 = .ok (.getfield 150, 3) := by decide +kernel
theorem d118_74 : decode (cod 118) 74 = .ok (.iload_n 1, 1) := by decide +kernel
theorem d118_75 : decode (cod 118) 75 = .ok (.iaload, 1) := by decide +kernel
theorem d118_76 : decode (cod 118) 76 = .ok (.aload_n 0, 1) := by decide +kernel
theorem d118_77 : decode (cod 118) 77 = .ok (.getfield 12, 3) := by decide +kernel
theorem d118_80 : decode (cod 118) 80 = .ok (.getfield 44, 3) := by decide +kernel
theorem d118_83 : decode (cod 118) 83 = .ok (.getfield 150, 3) := by decide +kernel
theorem d118_86 : decode (cod 118) 86 = .ok (.iload_n 2, 1) := by decide +kernel
theorem d118_87 : decode (cod 118) 87 = .ok (.iaload, 1) := by decide +kernel
theorem d118_88 : decode (cod 118) 88 = .ok (.if_icmp .ne 7, 3) := by decide +kernel
theorem d118_91 : decode (cod 118) 91 = .ok (.iconst 1, 1) := by decide +kernel
theorem d118_92 : decode (cod 118) 92 = .ok (.goto 4, 3) := by decide +kernel
theorem d118_95 : decode (cod 118) 95 = .ok (.iconst 2, 1) := by decide +kernel
theorem d118_96 : decode (cod 118) 96 = .ok (.istore 4, 2) := by decide +kernel
theorem d118_98 : decode (cod 118) 98 = .ok (.aload_n 0, 1) := by decide +kernel
theorem d118_99 : decode (cod 118) 99 = .ok (.getfield 12, 3) := by decide +kernel
theorem d118_102 : decode (cod 118) 102 = .ok (.getfield 143, 3) := by decide +kernel
theorem d118_105 : decode (cod 118) 105 = .ok (.aload_n 0, 1) := by decide +kernel
theorem d118_106 : decode (cod 118) 106 = .ok (.getfield 12, 3) := by decide +kernel
theorem d118_109 : decode (cod 118) 109 = .ok (.getfield 44, 3) := by decide +kernel
theorem d118_112 : decode (cod 118) 112 = .ok (.iload 4, 2) := by decide +kernel
theorem d118_114 : decode (cod 118) 114 = .ok (.iload_n 1, 1) := by decide +kernel
theorem d118_115 : decode (cod 118) 115 = .ok (.iload_n 2, 1) := by decide +kernel
theorem d118_116 : decode (cod 118) 116 = .ok (.iload_n 3, 1) := by decide +kernel
theorem d118_117 : decode (cod 118) 117 = .ok (.aload_n 0, 1) := by decide +kernel
theorem d118_118 : decode (cod 118) 118 = .ok (.getfield 12, 3) := by decide +kernel
theorem d118_121 : decode (cod 118) 121 = .ok (.getfield 153, 3) := by decide +kernel
theorem d118_124 : decode (cod 118) 124 = .ok (.invokevirtual 156, 3) := by decide +kernel
theorem d118_127 : decode (cod 118) 127 = .ok (.ireturn, 1) := by decide +kernel
