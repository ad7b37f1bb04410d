theorem dX6_join_4 : decode cX6_join 4 = .ok (.iload_n 1, 1) := by decide +kernel
theorem dX6_join_5 : decode cX6_join 5 = .ok (.iaload, 1) := by decide +kernel
theorem dX6_join_6 : decode cX6_join 6 = .ok (.ifCond .ne 12, 3) := by decide +kernel
theorem dX6_join_9 : decode cX6_join 9 = .ok (.aload_n 0, 1) := by decide +kernel
theorem dX6_join_10 : decode cX6_join 10 = .ok (.iload_n 1, 1) := by decide +kernel
theorem dX6_join_11 : decode cX6_join 11 = .ok (.iconst 1, 1) := by decide +kernel
theorem dX6_join_12 : decode cX6_join 12 = .ok (.invokevirtual 86, 3) := by decide +kernel
theorem dX6_join_15 : decode cX6_join 15 = .ok (.goto 22, 3) := by decide +kernel
theorem dX6_join_18 : decode cX6_join 18 = .ok (.aload_n 0, 1) := by decide +kernel
theorem dX6_join_19 : decode cX6_join 19 = .ok (.getfield 7, 3) := by decide +kernel
theorem dX6_join_22 : decode cX6_join 22 = .ok (.bipush 36, 2) := by decide +kernel
theorem dX6_join_24 : decode cX6_join 24 = .ok (.iload_n 1, 1) := by decide +kernel
theorem dX6_join_25 : decode cX6_join 25 = .ok (.iadd, 1) := by decide +kernel
theorem dX6_join_26 : decode cX6_join 26 = .ok (.iaload, 1) := by decide +kernel
theorem dX6_join_27 : decode cX6_join 27 = .ok (.iconst 2, 1) := by decide +kernel
theorem dX6_join_28 : decode cX6_join 28 = .ok (.if_icmp .lt 9, 3) := by decide +kernel
theorem dX6_join_31 : decode cX6_join 31 = .ok (.aload_n 0, 1) := by decide +kernel
theorem dX6_join_32 : decode cX6_join 32 = .ok (.iload_n 1, 1) := by decide +kernel
theorem dX6_join_33 : decode cX6_join 33 = .ok (.iconst 4, 1) := by decide +kernel
theorem dX6_join_34 : decode cX6_join 34 = .ok (.invokevirtual 86, 3) := by decide +kernel
theorem dX6_join_37 : decode cX6_join 37 = .ok (.return_, 1) := by decide +kernel
theorem dX6_trimSeen_0 : decode cX6_trimSeen 0 = .ok (.aload_n 0, 1) := by decide +kernel
theorem dX6_trimSeen_1 : decode cX6_trimSeen 1 = .ok (.iconst 0, 1) := by decide +kernel
theorem dX6_trimSeen_2 : decode cX6_trimSeen 2 = .ok (.putfield 72, 3) := by decide +kernel
theorem dX6_trimSeen_5 : decode cX6_trimSeen 5 = .ok (.aload_n 0, 1) := by decide +kernel
theorem dX6_trimSeen_6 : decode cX6_trimSeen 6 = .ok (.iconst 0, 1) := by decide +kernel
theorem dX6_trimSeen_7 : decode cX6_trimSeen 7 = .ok (.invokevirtual 95, 3) := by decide +kernel
theorem dX6_trimSeen_10 : decode cX6_trimSeen 10 = .ok (.iconst 0, 1) := by decide +kernel
theorem dX6_trimSeen_11 : decode cX6_trimSeen 11 = .ok (.istore_n 2, 1) := by decide +kernel
theorem dX6_trimSeen_12 : decode cX6_trimSeen 12 = .ok (.iload_n 2, 1) := by decide +kernel
theorem dX6_trimSeen_13 : decode cX6_trimSeen 13 = .ok (.bipush 6, 2) := by decide +kernel
theorem dX6_trimSeen_15 : decode cX6_trimSeen 15 = .ok (.if_icmp .ge 38, 3) := by decide +kernel
theorem dX6_trimSeen_18 : decode cX6_trimSeen 18 = .ok (.aload_n 0, 1) := by decide +kernel
theorem dX6_trimSeen_19 : decode cX6_trimSeen 19 = .ok (.getfield 35, 3) := by decide +kernel
theorem dX6_trimSeen_22 : decode cX6_trimSeen 22 = .ok (.iload_n 1, 1) := by decide +kernel
theorem dX6_trimSeen_23 : decode cX6_trimSeen 23 = .ok (.iaload, 1) := by decide +kernel
theorem dX6_trimSeen_24 : decode cX6_trimSeen 24 = .ok (.iload_n 2, 1) := by decide +kernel
theorem dX6_trimSeen_25 : decode cX6_trimSeen 25 = .ok (.ishr, 1) := by decide +kernel
theorem dX6_trimSeen_26 : decode cX6_trimSeen 26 = .ok (.iconst 1, 1) := by decide +kernel
theorem dX6_trimSeen_27 : decode cX6_trimSeen 27 = .ok (.iand, 1) := by decide +kernel
theorem dX6_trimSeen_28 : decode cX6_trimSeen 28 = .ok (.iconst 1, 1) := by decide +kernel
theorem dX6_trimSeen_29 : decode cX6_trimSeen 29 = .ok (.if_icmp .ne 18, 3) := by decide +kernel
theorem dX6_trimSeen_32 : decode cX6_trimSeen 32 = .ok (.aload_n 0, 1) := by decide +kernel
theorem dX6_trimSeen_33 : decode cX6_trimSeen 33 = .ok (.aload_n 0, 1) := by decide +kernel
theorem dX6_trimSeen_34 : decode cX6_trimSeen 34 = .ok (.getfield 44, 3) := by decide +kernel
theorem dX6_trimSeen_37 : decode cX6_trimSeen 37 = .ok (.bipush 6, 2) := by decide +kernel
theorem dX6_trimSeen_39 : decode cX6_trimSeen 39 = .ok (.iload_n 1, 1) := by decide +kernel
theorem dX6_trimSeen_40 : decode cX6_trimSeen 40 = .ok (.imul, 1) := by decide +kernel
theorem dX6_trimSeen_41 : decode cX6_trimSeen 41 = .ok (.iload_n 2, 1) := by decide +kernel
theorem dX6_trimSeen_42 : decode cX6_trimSeen 42 = .ok (.iadd, 1) := by decide +kernel
theorem dX6_trimSeen_43 : decode cX6_trimSeen 43 = .ok (.iaload, 1) := by decide +kernel
theorem dX6_trimSeen_44 : decode cX6_trimSeen 44 = .ok (.invokevirtual 95, 3) := by decide +kernel
theorem dX6_trimSeen_47 : decode cX6_trimSeen 47 = .ok (.iinc 2 1, 3) := by decide +kernel
theorem dX6_trimSeen_50 : decode cX6_trimSeen 50 = .ok (.goto (-38), 3) := by decide +kernel
theorem dX6_trimSeen_53 : decode cX6_trimSeen 53 = .ok (.aload_n 0, 1) := by decide +kernel
theorem dX6_trimSeen_54 : decode cX6_trimSeen 54 = .ok (.invokevirtual 98, 3) := by decide +kernel
theorem dX6_trimSeen_57 : decode cX6_trimSeen 57 = .ok (.ireturn, 1) := by decide +kernel
theorem dX6_trimChanged_0 : decode cX6_trimChanged 0 = .ok (.aload_n 0, 1) := by decide +kernel
theorem dX6_trimChanged_1 : decode cX6_trimChanged 1 = .ok (.iconst 0, 1) := by decide +kernel
theorem dX6_trimChanged_2 : decode cX6_trimChanged 2 = .ok (.putfield 72, 3) := by decide +kernel
theorem dX6_trimChanged_5 : decode cX6_trimChanged 5 = .ok (.aload_n 0, 1) := by decide +kernel
theorem dX6_trimChanged_6 : decode cX6_trimChanged 6 = .ok (.iconst 0, 1) := by decide +kernel
theorem dX6_trimChanged_7 : decode cX6_trimChanged 7 = .ok (.invokevirtual 95, 3) := by decide +kernel
theorem dX6_trimChanged_10 : decode cX6_trimChanged 10 = .ok (.iconst 0, 1) := by decide +kernel
theorem dX6_trimChanged_11 : decode cX6_trimChanged 11 = .ok (.istore_n 2, 1) := by decide +kernel
theorem dX6_trimChanged_12 : decode cX6_trimChanged 12 = .ok (.iload_n 2, 1) := by decide +kernel
theorem dX6_trimChanged_13 : decode cX6_trimChanged 13 = .ok (.bipush 6, 2) := by decide +kernel
theorem dX6_trimChanged_15 : decode cX6_trimChanged 15 = .ok (.if_icmp .ge 62, 3) := by decide +kernel
theorem dX6_trimChanged_18 : decode cX6_trimChanged 18 = .ok (.aload_n 0, 1) := by decide +kernel
theorem dX6_trimChanged_19 : decode cX6_trimChanged 19 = .ok (.getfield 35, 3) := by decide +kernel
theorem dX6_trimChanged_22 : decode cX6_trimChanged 22 = .ok (.iload_n 1, 1) := by decide +kernel
theorem dX6_trimChanged_23 : decode cX6_trimChanged 23 = .ok (.iaload, 1) := by decide +kernel
theorem dX6_trimChanged_24 : decode cX6_trimChanged 24 = .ok (.aload_n 0, 1) := by decide +kernel
theorem dX6_trimChanged_25 : decode cX6_trimChanged 25 = .ok (.getfield 7, 3) := by decide +kernel
theorem dX6_trimChanged_28 : decode cX6_trimChanged 28 = .ok (.bipush 84, 2) := by decide +kernel
theorem dX6_trimChanged_30 : decode cX6_trimChanged 30 = .ok (.iload_n 1, 1) := by decide +kernel
theorem dX6_trimChanged_31 : decode cX6_trimChanged 31 = .ok (.iadd, 1) := by decide +kernel
theorem dX6_trimChanged_32 : decode cX6_trimChanged 32 = .ok (.iaload, 1) := by decide +kernel
theorem dX6_trimChanged_33 : decode cX6_trimChanged 33 = .ok (.iand, 1) := by decide +kernel
theorem dX6_trimChanged_34 : decode cX6_trimChanged 34 = .ok (.iconst 1, 1) := by decide +kernel
theorem dX6_trimChanged_35 : decode cX6_trimChanged 35 = .ok (.iload_n 2, 1) := by decide +kernel
theorem dX6_trimChanged_36 : decode cX6_trimChanged 36 = .ok (.ishl, 1) := by decide +kernel
theorem dX6_trimChanged_37 : decode cX6_trimChanged 37 = .ok (.iand, 1) := by decide +kernel
theorem dX6_trimChanged_38 : decode cX6_trimChanged 38 = .ok (.ifCond .eq 33, 3) := by decide +kernel
theorem dX6_trimChanged_41 : decode cX6_trimChanged 41 = .ok (.aload_n 0, 1) := by decide +kernel
theorem dX6_trimChanged_42 : decode cX6_trimChanged 42 = .ok (.aload_n 0, 1) := by decide +kernel
theorem dX6_trimChanged_43 : decode cX6_trimChanged 43 = .ok (.getfield 44, 3) := by decide +kernel
theorem dX6_trimChanged_46 : decode cX6_trimChanged 46 = .ok (.bipush 6, 2) := by decide +kernel
theorem dX6_trimChanged_48 : decode cX6_trimChanged 48 = .ok (.iload_n 1, 1) := by decide +kernel
theorem dX6_trimChanged_49 : decode cX6_trimChanged 49 = .ok (.imul, 1) := by decide +kernel
theorem dX6_trimChanged_50 : decode cX6_trimChanged 50 = .ok (.iload_n 2, 1) := by decide +kernel
theorem dX6_trimChanged_51 : decode cX6_trimChanged 51 = .ok (.iadd, 1) := by decide +kernel
theorem dX6_trimChanged_52 : decode cX6_trimChanged 52 = .ok (.iaload, 1) := by decide +kernel
theorem dX6_trimChanged_53 : decode cX6_trimChanged 53 = .ok (.aload_n 0, 1) := by decide +kernel
theorem dX6_trimChanged_54 : decode cX6_trimChanged 54 = .ok (.getfield 7, 3) := by decide +kernel
theorem dX6_trimChanged_57 : decode cX6_trimChanged 57 = .ok (.bipush 96, 2) := by decide +kernel
theorem dX6_trimChanged_59 : decode cX6_trimChanged 59 = .ok (.bipush 6, 2) := by decide +kernel
theorem dX6_trimChanged_61 : decode cX6_trimChanged 61 = .ok (.iload_n 1, 1) := by decide +kernel
theorem dX6_trimChanged_62 : decode cX6_trimChanged 62 = .ok (.imul, 1) := by decide +kernel
theorem dX6_trimChanged_63 : decode cX6_trimChanged 63 = .ok (.iadd, 1) := by decide +kernel
theorem dX6_trimChanged_64 : decode cX6_trimChanged 64 = .ok (.iload_n 2, 1) := by decide +kernel
theorem dX6_trimChanged_65 : decode cX6_trimChanged 65 = .ok (.iadd, 1) := by decide +kernel
theorem dX6_trimChanged_66 : decode cX6_trimChanged 66 = .ok (.iaload, 1) := by decide +kernel
theorem dX6_trimChanged_67 : decode cX6_trimChanged 67 = .ok (.isub, 1) := by decide +kernel
theorem dX6_trimChanged_68 : decode cX6_trimChanged 68 = .ok (.invokevirtual 95, 3) := by decide +kernel
theorem dX6_trimChanged_71 : decode cX6_trimChanged 71 = .ok (.iinc 2 1, 3) := by decide +kernel
theorem dX6_trimChanged_74 : decode cX6_trimChanged 74 = .ok (.goto (-62), 3) := by decide +kernel
theorem dX6_trimChanged_77 : decode cX6_trimChanged 77 = .ok (.aload_n 0, 1) := by decide +kernel
theorem dX6_trimChanged_78 : decode cX6_trimChanged 78 = .ok (.invokevirtual 98, 3) := by decide +kernel
theorem dX6_trimChanged_81 : decode cX6_trimChanged 81 = .ok (.ireturn, 1) := by decide +kernel
theorem dX6_correct_0 : decode cX6_correct 0 = .ok (.aload_n 0, 1) := by decide +kernel
theorem dX6_correct_1 : decode cX6_correct 1 = .ok (.iload_n 1, 1) := by decide +kernel
theorem dX6_correct_2 : decode cX6_correct 2 = .ok (.invokevirtual 102, 3) := by decide +kernel
theorem dX6_correct_5 : decode cX6_correct 5 = .ok (.istore_n 2, 1) := by decide +kernel
theorem dX6_correct_6 : decode cX6_correct 6 = .ok (.aload_n 0, 1) := by decide +kernel
theorem dX6_correct_7 : decode cX6_correct 7 = .ok (.getfield 35, 3) := by decide +kernel
theorem dX6_correct_10 : decode cX6_correct 10 = .ok (.iload_n 1, 1) := by decide +kernel
theorem dX6_correct_11 : decode cX6_correct 11 = .ok (.iaload, 1) := by decide +kernel
theorem dX6_correct_12 : decode cX6_correct 12 = .ok (.ifCond .eq 18, 3) := by decide +kernel
theorem dX6_correct_15 : decode cX6_correct 15 = .ok (.iload_n 2, 1) := by decide +kernel
theorem dX6_correct_16 : decode cX6_correct 16 = .ok (.invokestatic 106, 3) := by decide +kernel
theorem dX6_correct_19 : decode cX6_correct 19 = .ok (.aload_n 0, 1) := by decide +kernel
theorem dX6_correct_20 : decode cX6_correct 20 = .ok (.getfield 7, 3) := by decide +kernel
theorem dX6_correct_23 : decode cX6_correct 23 = .ok (.sipush 132, 3) := by decide +kernel
theorem dX6_correct_26 : decode cX6_correct 26 = .ok (.iaload, 1) := by decide +kernel
theorem dX6_correct_27 : decode cX6_correct 27 = .ok (.if_icmp .le 27, 3) := by decide +kernel
theorem dX6_correct_30 : decode cX6_correct 30 = .ok (.aload_n 0, 1) := by decide +kernel
theorem dX6_correct_31 : decode cX6_correct 31 = .ok (.getfield 7, 3) := by decide +kernel
theorem dX6_correct_34 : decode cX6_correct 34 = .ok (.bipush 54, 2) := by decide +kernel
theorem dX6_correct_36 : decode cX6_correct 36 = .ok (.iload_n 1, 1) := by decide +kernel
theorem dX6_correct_37 : decode cX6_correct 37 = .ok (.iadd, 1) := by decide +kernel
theorem dX6_correct_38 : decode cX6_correct 38 = .ok (.dup2, 1) := by decide +kernel
theorem dX6_correct_39 : decode cX6_correct 39 = .ok (.iaload, 1) := by decide +kernel
theorem dX6_correct_40 : decode cX6_correct 40 = .ok (.iconst 1, 1) := by decide +kernel
theorem dX6_correct_41 : decode cX6_correct 41 = .ok (.iadd, 1) := by decide +kernel
theorem dX6_correct_42 : decode cX6_correct 42 = .ok (.iastore, 1) := by decide +kernel
theorem dX6_correct_43 : decode cX6_correct 43 = .ok (.aload_n 0, 1) := by decide +kernel
theorem dX6_correct_44 : decode cX6_correct 44 = .ok (.getfield 7, 3) := by decide +kernel
theorem dX6_correct_47 : decode cX6_correct 47 = .ok (.bipush 48, 2) := by decide +kernel
theorem dX6_correct_49 : decode cX6_correct 49 = .ok (.iload_n 1, 1) := by decide +kernel
theorem dX6_correct_50 : decode cX6_correct 50 = .ok (.iadd, 1) := by decide +kernel
theorem dX6_correct_51 : decode cX6_correct 51 = .ok (.iconst 0, 1) := by decide +kernel
theorem dX6_correct_52 : decode cX6_correct 52 = .ok (.iastore, 1) := by decide +kernel
theorem dX6_correct_53 : decode cX6_correct 53 = .ok (.return_, 1) := by decide +kernel
theorem dX6_correct_54 : decode cX6_correct 54 = .ok (.aload_n 0, 1) := by decide +kernel
theorem dX6_correct_55 : decode cX6_correct 55 = .ok (.getfield 7, 3) := by decide +kernel
theorem dX6_correct_58 : decode cX6_correct 58 = .ok (.bipush 48, 2) := by decide +kernel
theorem dX6_correct_60 : decode cX6_correct 60 = .ok (.iload_n 1, 1) := by decide +kernel
theorem dX6_correct_61 : decode cX6_correct 61 = .ok (.iadd, 1) := by decide +kernel
theorem dX6_correct_62 : decode cX6_correct 62 = .ok (.dup2, 1) := by decide +kernel
theorem dX6_correct_63 : decode cX6_correct 63 = .ok (.iaload, 1) := by decide +kernel
theorem dX6_correct_64 : decode cX6_correct 64 = .ok (.iconst 1, 1) := by decide +kernel
theorem dX6_correct_65 : decode cX6_correct 65 = .ok (.iadd, 1) := by decide +kernel
theorem dX6_correct_66 : decode cX6_correct 66 = .ok (.iastore, 1) := by decide +kernel
theorem dX6_correct_67 : decode cX6_correct 67 = .ok (.aload_n 0, 1) := by decide +kernel
theorem dX6_correct_68 : decode cX6_correct 68 = .ok (.getfield 7, 3) := by decide +kernel
theorem dX6_correct_71 : decode cX6_correct 71 = .ok (.bipush 54, 2) := by decide +kernel
theorem dX6_correct_73 : decode cX6_correct 73 = .ok (.iload_n 1, 1) := by decide +kernel
theorem dX6_correct_74 : decode cX6_correct 74 = .ok (.iadd, 1) := by decide +kernel
theorem dX6_correct_75 : decode cX6_correct 75 = .ok (.iconst 0, 1) := by decide +kernel
theorem dX6_correct_76 : decode cX6_correct 76 = .ok (.iastore, 1) := by decide +kernel
theorem dX6_correct_77 : decode cX6_correct 77 = .ok (.aload_n 0, 1) := by decide +kernel
theorem dX6_correct_78 : decode cX6_correct 78 = .ok (.getfield 7, 3) := by decide +kernel
theorem dX6_correct_81 : decode cX6_correct 81 = .ok (.bipush 60, 2) := by decide +kernel
theorem dX6_correct_83 : decode cX6_correct 83 = .ok (.iload_n 1, 1) := by decide +kernel
theorem dX6_correct_84 : decode cX6_correct 84 = .ok (.iadd, 1) := by decide +kernel
theorem dX6_correct_85 : decode cX6_correct 85 = .ok (.dup2, 1) := by decide +kernel
theorem dX6_correct_86 : decode cX6_correct 86 = .ok (.iaload, 1) := by decide +kernel
theorem dX6_correct_87 : decode cX6_correct 87 = .ok (.iload_n 2, 1) := by decide +kernel
theorem dX6_correct_88 : decode cX6_correct 88 = .ok (.iadd, 1) := by decide +kernel
theorem dX6_correct_89 : decode cX6_correct 89 = .ok (.iastore, 1) := by decide +kernel
theorem dX6_correct_90 : decode cX6_correct 90 = .ok (.aload_n 0, 1) := by decide +kernel
theorem dX6_correct_91 : decode cX6_correct 91 = .ok (.getfield 7, 3) := by decide +kernel
theorem dX6_correct_94 : decode cX6_correct 94 = .ok (.bipush 66, 2) := by decide +kernel
theorem dX6_correct_96 : decode cX6_correct 96 = .ok (.iload_n 1, 1) := by decide +kernel
theorem dX6_correct_97 : decode cX6_correct 97 = .ok (.iadd, 1) := by decide +kernel
theorem dX6_correct_98 : decode cX6_correct 98 = .ok (.iaload, 1) := by decide +kernel
theorem dX6_correct_99 : decode cX6_correct 99 = .ok (.aload_n 0, 1) := by decide +kernel
theorem dX6_correct_100 : decode cX6_correct 100 = .ok (.iload_n 1, 1) := by decide +kernel
theorem dX6_correct_101 : decode cX6_correct 101 = .ok (.invokevirtual 109, 3) := by decide +kernel
theorem dX6_correct_104 : decode cX6_correct 104 = .ok (.iadd, 1) := by decide +kernel
theorem dX6_correct_105 : decode cX6_correct 105 = .ok (.istore_n 3, 1) := by decide +kernel
theorem dX6_correct_106 : decode cX6_correct 106 = .ok (.aload_n 0, 1) := by decide +kernel
theorem dX6_correct_107 : decode cX6_correct 107 = .ok (.getfield 7, 3) := by decide +kernel
theorem dX6_correct_110 : decode cX6_correct 110 = .ok (.bipush 66, 2) := by decide +kernel
theorem dX6_correct_112 : decode cX6_correct 112 = .ok (.iload_n 1, 1) := by decide +kernel
theorem dX6_correct_113 : decode cX6_correct 113 = .ok (.iadd, 1) := by decide +kernel
theorem dX6_correct_114 : decode cX6_correct 114 = .ok (.iload_n 3, 1) := by decide +kernel
theorem dX6_correct_115 : decode cX6_correct 115 = .ok (.bipush (-100), 2) := by decide +kernel
theorem dX6_correct_117 : decode cX6_correct 117 = .ok (.if_icmp .ge 8, 3) := by decide +kernel
theorem dX6_correct_120 : decode cX6_correct 120 = .ok (.bipush (-100), 2) := by decide +kernel
theorem dX6_correct_122 : decode cX6_correct 122 = .ok (.goto 15, 3) := by decide +kernel
theorem dX6_correct_125 : decode cX6_correct 125 = .ok (.iload_n 3, 1) := by decide +kernel
theorem dX6_correct_126 : decode cX6_correct 126 = .ok (.bipush 100, 2) := by decide +kernel
theorem dX6_correct_128 : decode cX6_correct 128 = .ok (.if_icmp .le 8, 3) := by decide +kernel
theorem dX6_correct_131 : decode cX6_correct 131 = .ok (.bipush 100, 2) := by decide +kernel
theorem dX6_correct_133 : decode cX6_correct 133 = .ok (.goto 4, 3) := by decide +kernel
theorem dX6_correct_136 : decode cX6_correct 136 = .ok (.iload_n 3, 1) := by decide +kernel
theorem dX6_correct_137 : decode cX6_correct 137 = .ok (.iastore, 1) := by decide +kernel
theorem dX6_correct_138 : decode cX6_correct 138 = .ok (.return_, 1) := by decide +kernel
theorem dX6_keepOn_0 : decode cX6_keepOn 0 = .ok (.aload_n 0, 1) := by decide +kernel
theorem dX6_keepOn_1 : decode cX6_keepOn 1 = .ok (.getfield 7, 3) := by decide +kernel
theorem dX6_keepOn_4 : decode cX6_keepOn 4 = .ok (.sipush 133, 3) := by decide +kernel
theorem dX6_keepOn_7 : decode cX6_keepOn 7 = .ok (.iaload, 1) := by decide +kernel
theorem dX6_keepOn_8 : decode cX6_keepOn 8 = .ok (.iconst 2, 1) := by decide +kernel
theorem dX6_keepOn_9 : decode cX6_keepOn 9 = .ok (.irem, 1) := by decide +kernel
theorem dX6_keepOn_10 : decode cX6_keepOn 10 = .ok (.iconst 1, 1) := by decide +kernel
theorem dX6_keepOn_11 : decode cX6_keepOn 11 = .ok (.if_icmp .ne 8, 3) := by decide +kernel
theorem dX6_keepOn_14 : decode cX6_keepOn 14 = .ok (.aload_n 0, 1) := by decide +kernel
theorem dX6_keepOn_15 : decode cX6_keepOn 15 = .ok (.iload_n 1, 1) := by decide +kernel
theorem dX6_keepOn_16 : decode cX6_keepOn 16 = .ok (.invokevirtual 112, 3) := by decide +kernel
theorem dX6_keepOn_19 : decode cX6_keepOn 19 = .ok (.aload_n 0, 1) := by decide +kernel
theorem dX6_keepOn_20 : decode cX6_keepOn 20 = .ok (.iload_n 1, 1) := by decide +kernel
theorem dX6_keepOn_21 : decode cX6_keepOn 21 = .ok (.iconst 4, 1) := by decide +kernel
theorem dX6_keepOn_22 : decode cX6_keepOn 22 = .ok (.invokevirtual 54, 3) := by decide +kernel
theorem dX6_keepOn_25 : decode cX6_keepOn 25 = .ok (.ifCond .eq 25, 3) := by decide +kernel
theorem dX6_keepOn_28 : decode cX6_keepOn 28 = .ok (.aload_n 0, 1) := by decide +kernel
theorem dX6_keepOn_29 : decode cX6_keepOn 29 = .ok (.getfield 7, 3) := by decide +kernel
theorem dX6_keepOn_32 : decode cX6_keepOn 32 = .ok (.bipush 54, 2) := by decide +kernel
theorem dX6_keepOn_34 : decode cX6_keepOn 34 = .ok (.iload_n 1, 1) := by decide +kernel
theorem dX6_keepOn_35 : decode cX6_keepOn 35 = .ok (.iadd, 1) := by decide +kernel
theorem dX6_keepOn_36 : decode cX6_keepOn 36 = .ok (.iaload, 1) := by decide +kernel
theorem dX6_keepOn_37 : decode cX6_keepOn 37 = .ok (.iconst 1, 1) := by decide +kernel
theorem dX6_keepOn_38 : decode cX6_keepOn 38 = .ok (.if_icmp .lt 12, 3) := by decide +kernel
theorem dX6_keepOn_41 : decode cX6_keepOn 41 = .ok (.aload_n 0, 1) := by decide +kernel
theorem dX6_keepOn_42 : decode cX6_keepOn 42 = .ok (.iload_n 1, 1) := by decide +kernel
theorem dX6_keepOn_43 : decode cX6_keepOn 43 = .ok (.iconst 5, 1) := by decide +kernel
theorem dX6_keepOn_44 : decode cX6_keepOn 44 = .ok (.invokevirtual 86, 3) := by decide +kernel
theorem dX6_keepOn_47 : decode cX6_keepOn 47 = .ok (.goto 63, 3) := by decide +kernel
theorem dX6_keepOn_50 : decode cX6_keepOn 50 = .ok (.aload_n 0, 1) := by decide +kernel
theorem dX6_keepOn_51 : decode cX6_keepOn 51 = .ok (.iload_n 1, 1) := by decide +kernel
theorem dX6_keepOn_52 : decode cX6_keepOn 52 = .ok (.iconst 5, 1) := by decide +kernel
theorem dX6_keepOn_53 : decode cX6_keepOn 53 = .ok (.invokevirtual 54, 3) := by decide +kernel
theorem dX6_keepOn_56 : decode cX6_keepOn 56 = .ok (.ifCond .eq 26, 3) := by decide +kernel
theorem dX6_keepOn_59 : decode cX6_keepOn 59 = .ok (.aload_n 0, 1) := by decide +kernel
theorem dX6_keepOn_60 : decode cX6_keepOn 60 = .ok (.getfield 7, 3) := by decide +kernel
theorem dX6_keepOn_63 : decode cX6_keepOn 63 = .ok (.bipush 54, 2) := by decide +kernel
theorem dX6_keepOn_65 : decode cX6_keepOn 65 = .ok (.iload_n 1, 1) := by decide +kernel
theorem dX6_keepOn_66 : decode cX6_keepOn 66 = .ok (.iadd, 1) := by decide +kernel
theorem dX6_keepOn_67 : decode cX6_keepOn 67 = .ok (.iaload, 1) := by decide +kernel
theorem dX6_keepOn_68 : decode cX6_keepOn 68 = .ok (.iconst 3, 1) := by decide +kernel
theorem dX6_keepOn_69 : decode cX6_keepOn 69 = .ok (.if_icmp .lt 13, 3) := by decide +kernel
theorem dX6_keepOn_72 : decode cX6_keepOn 72 = .ok (.aload_n 0, 1) := by decide +kernel
theorem dX6_keepOn_73 : decode cX6_keepOn 73 = .ok (.iload_n 1, 1) := by decide +kernel
theorem dX6_keepOn_74 : decode cX6_keepOn 74 = .ok (.bipush 6, 2) := by decide +kernel
theorem dX6_keepOn_76 : decode cX6_keepOn 76 = .ok (.invokevirtual 86, 3) := by decide +kernel
theorem dX6_keepOn_79 : decode cX6_keepOn 79 = .ok (.goto 31, 3) := by decide +kernel
theorem dX6_keepOn_82 : decode cX6_keepOn 82 = .ok (.aload_n 0, 1) := by decide +kernel
theorem dX6_keepOn_83 : decode cX6_keepOn 83 = .ok (.iload_n 1, 1) := by decide +kernel
theorem dX6_keepOn_84 : decode cX6_keepOn 84 = .ok (.iconst 5, 1) := by decide +kernel
theorem dX6_keepOn_85 : decode cX6_keepOn 85 = .ok (.invokevirtual 54, 3) := by decide +kernel
theorem dX6_keepOn_88 : decode cX6_keepOn 88 = .ok (.ifCond .eq 22, 3) := by decide +kernel
theorem dX6_keepOn_91 : decode cX6_keepOn 91 = .ok (.aload_n 0, 1) := by decide +kernel
theorem dX6_keepOn_92 : decode cX6_keepOn 92 = .ok (.getfield 7, 3) := by decide +kernel
theorem dX6_keepOn_95 : decode cX6_keepOn 95 = .ok (.bipush 48, 2) := by decide +kernel
theorem dX6_keepOn_97 : decode cX6_keepOn 97 = .ok (.iload_n 1, 1) := by decide +kernel
theorem dX6_keepOn_98 : decode cX6_keepOn 98 = .ok (.iadd, 1) := by decide +kernel
theorem dX6_keepOn_99 : decode cX6_keepOn 99 = .ok (.iaload, 1) := by decide +kernel
theorem dX6_keepOn_100 : decode cX6_keepOn 100 = .ok (.iconst 2, 1) := by decide +kernel
theorem dX6_keepOn_101 : decode cX6_keepOn 101 = .ok (.if_icmp .lt 9, 3) := by decide +kernel
theorem dX6_keepOn_104 : decode cX6_keepOn 104 = .ok (.aload_n 0, 1) := by decide +kernel
theorem dX6_keepOn_105 : decode cX6_keepOn 105 = .ok (.iload_n 1, 1) := by decide +kernel
theorem dX6_keepOn_106 : decode cX6_keepOn 106 = .ok (.iconst 4, 1) := by decide +kernel
theorem dX6_keepOn_107 : decode cX6_keepOn 107 = .ok (.invokevirtual 86, 3) := by decide +kernel
theorem dX6_keepOn_110 : decode cX6_keepOn 110 = .ok (.return_, 1) := by decide +kernel
theorem dX6_end_0 : decode cX6_end 0 = .ok (.aload_n 0, 1) := by decide +kernel
theorem dX6_end_1 : decode cX6_end 1 = .ok (.getfield 29, 3) := by decide +kernel
theorem dX6_end_4 : decode cX6_end 4 = .ok (.iload_n 1, 1) := by decide +kernel
theorem dX6_end_5 : decode cX6_end 5 = .ok (.baload, 1) := by decide +kernel
theorem dX6_end_6 : decode cX6_end 6 = .ok (.ifCond .eq 8, 3) := by decide +kernel
theorem dX6_end_9 : decode cX6_end 9 = .ok (.aload_n 0, 1) := by decide +kernel
theorem dX6_end_10 : decode cX6_end 10 = .ok (.iload_n 1, 1) := by decide +kernel
theorem dX6_end_11 : decode cX6_end 11 = .ok (.invokevirtual 82, 3) := by decide +kernel
theorem dX6_end_14 : decode cX6_end 14 = .ok (.aload_n 0, 1) := by decide +kernel
theorem dX6_end_15 : decode cX6_end 15 = .ok (.getfield 7, 3) := by decide +kernel
theorem dX6_end_18 : decode cX6_end 18 = .ok (.bipush 30, 2) := by decide +kernel
theorem dX6_end_20 : decode cX6_end 20 = .ok (.iload_n 1, 1) := by decide +kernel
theorem dX6_end_21 : decode cX6_end 21 = .ok (.iadd, 1) := by decide +kernel
theorem dX6_end_22 : decode cX6_end 22 = .ok (.iaload, 1) := by decide +kernel
theorem dX6_end_23 : decode cX6_end 23 = .ok (.tableswitch 65 1 5 #[33, 41, 49, 57, 57], 33) := by decide +kernel
theorem dX6_end_56 : decode cX6_end 56 = .ok (.aload_n 0, 1) := by decide +kernel
theorem dX6_end_57 : decode cX6_end 57 = .ok (.iload_n 1, 1) := by decide +kernel
theorem dX6_end_58 : decode cX6_end 58 = .ok (.invokevirtual 115, 3) := by decide +kernel
theorem dX6_end_61 : decode cX6_end 61 = .ok (.goto 27, 3) := by decide +kernel
theorem dX6_end_64 : decode cX6_end 64 = .ok (.aload_n 0, 1) := by decide +kernel
theorem dX6_end_65 : decode cX6_end 65 = .ok (.iload_n 1, 1) := by decide +kernel
theorem dX6_end_66 : decode cX6_end 66 = .ok (.invokevirtual 118, 3) := by decide +kernel
theorem dX6_end_69 : decode cX6_end 69 = .ok (.goto 19, 3) := by decide +kernel
theorem dX6_end_72 : decode cX6_end 72 = .ok (.aload_n 0, 1) := by decide +kernel
theorem dX6_end_73 : decode cX6_end 73 = .ok (.iload_n 1, 1) := by decide +kernel
theorem dX6_end_74 : decode cX6_end 74 = .ok (.invokevirtual 121, 3) := by decide +kernel
theorem dX6_end_77 : decode cX6_end 77 = .ok (.goto 11, 3) := by decide +kernel
theorem dX6_end_80 : decode cX6_end 80 = .ok (.aload_n 0, 1) := by decide +kernel
theorem dX6_end_81 : decode cX6_end 81 = .ok (.iload_n 1, 1) := by decide +kernel
theorem dX6_end_82 : decode cX6_end 82 = .ok (.invokevirtual 124, 3) := by decide +kernel
theorem dX6_end_85 : decode cX6_end 85 = .ok (.goto 3, 3) := by decide +kernel
theorem dX6_end_88 : decode cX6_end 88 = .ok (.return_, 1) := by decide +kernel
theorem dX6_keepCycle_0 : decode cX6_keepCycle 0 = .ok (.aload_n 0, 1) := by decide +kernel
theorem dX6_keepCycle_1 : decode cX6_keepCycle 1 = .ok (.getfield 7, 3) := by decide +kernel
theorem dX6_keepCycle_4 : decode cX6_keepCycle 4 = .ok (.bipush 72, 2) := by decide +kernel
theorem dX6_keepCycle_6 : decode cX6_keepCycle 6 = .ok (.iload_n 1, 1) := by decide +kernel
theorem dX6_keepCycle_7 : decode cX6_keepCycle 7 = .ok (.iadd, 1) := by decide +kernel
theorem dX6_keepCycle_8 : decode cX6_keepCycle 8 = .ok (.dup2, 1) := by decide +kernel
theorem dX6_keepCycle_9 : decode cX6_keepCycle 9 = .ok (.iaload, 1) := by decide +kernel
theorem dX6_keepCycle_10 : decode cX6_keepCycle 10 = .ok (.aload_n 0, 1) := by decide +kernel
theorem dX6_keepCycle_11 : decode cX6_keepCycle 11 = .ok (.getfield 23, 3) := by decide +kernel
theorem dX6_keepCycle_14 : decode cX6_keepCycle 14 = .ok (.iload_n 1, 1) := by decide +kernel
theorem dX6_keepCycle_15 : decode cX6_keepCycle 15 = .ok (.baload, 1) := by decide +kernel
theorem dX6_keepCycle_16 : decode cX6_keepCycle 16 = .ok (.ifCond .eq 7, 3) := by decide +kernel
theorem dX6_keepCycle_19 : decode cX6_keepCycle 19 = .ok (.iconst 1, 1) := by decide +kernel
theorem dX6_keepCycle_20 : decode cX6_keepCycle 20 = .ok (.goto 4, 3) := by decide +kernel
theorem dX6_keepCycle_23 : decode cX6_keepCycle 23 = .ok (.iconst 0, 1) := by decide +kernel
theorem dX6_keepCycle_24 : decode cX6_keepCycle 24 = .ok (.iadd, 1) := by decide +kernel
theorem dX6_keepCycle_25 : decode cX6_keepCycle 25 = .ok (.iastore, 1) := by decide +kernel
theorem dX6_keepCycle_26 : decode cX6_keepCycle 26 = .ok (.aload_n 0, 1) := by decide +kernel
theorem dX6_keepCycle_27 : decode cX6_keepCycle 27 = .ok (.getfield 7, 3) := by decide +kernel
theorem dX6_keepCycle_30 : decode cX6_keepCycle 30 = .ok (.bipush 78, 2) := by decide +kernel
theorem dX6_keepCycle_32 : decode cX6_keepCycle 32 = .ok (.iload_n 1, 1) := by decide +kernel
theorem dX6_keepCycle_33 : decode cX6_keepCycle 33 = .ok (.iadd, 1) := by decide +kernel
theorem dX6_keepCycle_34 : decode cX6_keepCycle 34 = .ok (.aload_n 0, 1) := by decide +kernel
theorem dX6_keepCycle_35 : decode cX6_keepCycle 35 = .ok (.getfield 41, 3) := by decide +kernel
theorem dX6_keepCycle_38 : decode cX6_keepCycle 38 = .ok (.iload_n 1, 1) := by decide +kernel
theorem dX6_keepCycle_39 : decode cX6_keepCycle 39 = .ok (.iaload, 1) := by decide +kernel
theorem dX6_keepCycle_40 : decode cX6_keepCycle 40 = .ok (.iastore, 1) := by decide +kernel
theorem dX6_keepCycle_41 : decode cX6_keepCycle 41 = .ok (.aload_n 0, 1) := by decide +kernel
theorem dX6_keepCycle_42 : decode cX6_keepCycle 42 = .ok (.getfield 7, 3) := by decide +kernel
theorem dX6_keepCycle_45 : decode cX6_keepCycle 45 = .ok (.bipush 84, 2) := by decide +kernel
theorem dX6_keepCycle_47 : decode cX6_keepCycle 47 = .ok (.iload_n 1, 1) := by decide +kernel
theorem dX6_keepCycle_48 : decode cX6_keepCycle 48 = .ok (.iadd, 1) := by decide +kernel
theorem dX6_keepCycle_49 : decode cX6_keepCycle 49 = .ok (.aload_n 0, 1) := by decide +kernel
theorem dX6_keepCycle_50 : decode cX6_keepCycle 50 = .ok (.getfield 35, 3) := by decide +kernel
theorem dX6_keepCycle_53 : decode cX6_keepCycle 53 = .ok (.iload_n 1, 1) := by decide +kernel
theorem dX6_keepCycle_54 : decode cX6_keepCycle 54 = .ok (.iaload, 1) := by decide +kernel
theorem dX6_keepCycle_55 : decode cX6_keepCycle 55 = .ok (.iastore, 1) := by decide +kernel
theorem dX6_keepCycle_56 : decode cX6_keepCycle 56 = .ok (.aload_n 0, 1) := by decide +kernel
theorem dX6_keepCycle_57 : decode cX6_keepCycle 57 = .ok (.getfield 7, 3) := by decide +kernel
theorem dX6_keepCycle_60 : decode cX6_keepCycle 60 = .ok (.bipush 90, 2) := by decide +kernel
theorem dX6_keepCycle_62 : decode cX6_keepCycle 62 = .ok (.iload_n 1, 1) := by decide +kernel
theorem dX6_keepCycle_63 : decode cX6_keepCycle 63 = .ok (.iadd, 1) := by decide +kernel
theorem dX6_keepCycle_64 : decode cX6_keepCycle 64 = .ok (.aload_n 0, 1) := by decide +kernel
theorem dX6_keepCycle_65 : decode cX6_keepCycle 65 = .ok (.getfield 38, 3) := by decide +kernel
theorem dX6_keepCycle_68 : decode cX6_keepCycle 68 = .ok (.iload_n 1, 1) := by decide +kernel
theorem dX6_keepCycle_69 : decode cX6_keepCycle 69 = .ok (.iaload, 1) := by decide +kernel
theorem dX6_keepCycle_70 : decode cX6_keepCycle 70 = .ok (.iastore, 1) := by decide +kernel
theorem dX6_keepCycle_71 : decode cX6_keepCycle 71 = .ok (.iconst 0, 1) := by decide +kernel
theorem dX6_keepCycle_72 : decode cX6_keepCycle 72 = .ok (.istore_n 2, 1) := by decide +kernel
theorem dX6_keepCycle_73 : decode cX6_keepCycle 73 = .ok (.iload_n 2, 1) := by decide +kernel
theorem dX6_keepCycle_74 : decode cX6_keepCycle 74 = .ok (.bipush 6, 2) := by decide +kernel
theorem dX6_keepCycle_76 : decode cX6_keepCycle 76 = .ok (.if_icmp .ge 34, 3) := by decide +kernel
theorem dX6_keepCycle_79 : decode cX6_keepCycle 79 = .ok (.aload_n 0, 1) := by decide +kernel
theorem dX6_keepCycle_80 : decode cX6_keepCycle 80 = .ok (.getfield 7, 3) := by decide +kernel
theorem dX6_keepCycle_83 : decode cX6_keepCycle 83 = .ok (.bipush 96, 2) := by decide +kernel
theorem dX6_keepCycle_85 : decode cX6_keepCycle 85 = .ok (.bipush 6, 2) := by decide +kernel
theorem dX6_keepCycle_87 : decode cX6_keepCycle 87 = .ok (.iload_n 1, 1) := by decide +kernel
theorem dX6_keepCycle_88 : decode cX6_keepCycle 88 = .ok (.imul, 1) := by decide +kernel
theorem dX6_keepCycle_89 : decode cX6_keepCycle 89 = .ok (.iadd, 1) := by decide +kernel
theorem dX6_keepCycle_90 : decode cX6_keepCycle 90 = .ok (.iload_n 2, 1) := by decide +kernel
theorem dX6_keepCycle_91 : decode cX6_keepCycle 91 = .ok (.iadd, 1) := by decide +kernel
theorem dX6_keepCycle_92 : decode cX6_keepCycle 92 = .ok (.aload_n 0, 1) := by decide +kernel
theorem dX6_keepCycle_93 : decode cX6_keepCycle 93 = .ok (.getfield 44, 3) := by decide +kernel
theorem dX6_keepCycle_96 : decode cX6_keepCycle 96 = .ok (.bipush 6, 2) := by decide +kernel
theorem dX6_keepCycle_98 : decode cX6_keepCycle 98 = .ok (.iload_n 1, 1) := by decide +kernel
theorem dX6_keepCycle_99 : decode cX6_keepCycle 99 = .ok (.imul, 1) := by decide +kernel
theorem dX6_keepCycle_100 : decode cX6_keepCycle 100 = .ok (.iload_n 2, 1) := by decide +kernel
theorem dX6_keepCycle_101 : decode cX6_keepCycle 101 = .ok (.iadd, 1) := by decide +kernel
theorem dX6_keepCycle_102 : decode cX6_keepCycle 102 = .ok (.iaload, 1) := by decide +kernel
theorem dX6_keepCycle_103 : decode cX6_keepCycle 103 = .ok (.iastore, 1) := by decide +kernel
theorem dX6_keepCycle_104 : decode cX6_keepCycle 104 = .ok (.iinc 2 1, 3) := by decide +kernel
theorem dX6_keepCycle_107 : decode cX6_keepCycle 107 = .ok (.goto (-34), 3) := by decide +kernel
theorem dX6_keepCycle_110 : decode cX6_keepCycle 110 = .ok (.aload_n 0, 1) := by decide +kernel
theorem dX6_keepCycle_111 : decode cX6_keepCycle 111 = .ok (.iload_n 1, 1) := by decide +kernel
theorem dX6_keepCycle_112 : decode cX6_keepCycle 112 = .ok (.invokevirtual 65, 3) := by decide +kernel
theorem dX6_keepCycle_115 : decode cX6_keepCycle 115 = .ok (.ifCond .ne 34, 3) := by decide +kernel
theorem dX6_keepCycle_118 : decode cX6_keepCycle 118 = .ok (.aload_n 0, 1) := by decide +kernel
theorem dX6_keepCycle_119 : decode cX6_keepCycle 119 = .ok (.getfield 7, 3) := by decide +kernel
theorem dX6_keepCycle_122 : decode cX6_keepCycle 122 = .ok (.bipush 60, 2) := by decide +kernel
theorem dX6_keepCycle_124 : decode cX6_keepCycle 124 = .ok (.iload_n 1, 1) := by decide +kernel
theorem dX6_keepCycle_125 : decode cX6_keepCycle 125 = .ok (.iadd, 1) := by decide +kernel
theorem dX6_keepCycle_126 : decode cX6_keepCycle 126 = .ok (.dup2, 1) := by decide +kernel
theorem dX6_keepCycle_127 : decode cX6_keepCycle 127 = .ok (.iaload, 1) := by decide +kernel
theorem dX6_keepCycle_128 : decode cX6_keepCycle 128 = .ok (.aload_n 0, 1) := by decide +kernel
theorem dX6_keepCycle_129 : decode cX6_keepCycle 129 = .ok (.getfield 7, 3) := by decide +kernel
theorem dX6_keepCycle_132 : decode cX6_keepCycle 132 = .ok (.bipush 18, 2) := by decide +kernel
theorem dX6_keepCycle_134 : decode cX6_keepCycle 134 = .ok (.iload_n 1, 1) := by decide +kernel
theorem dX6_keepCycle_135 : decode cX6_keepCycle 135 = .ok (.iadd, 1) := by decide +kernel
theorem dX6_keepCycle_136 : decode cX6_keepCycle 136 = .ok (.iaload, 1) := by decide +kernel
theorem dX6_keepCycle_137 : decode cX6_keepCycle 137 = .ok (.aload_n 0, 1) := by decide +kernel
theorem dX6_keepCycle_138 : decode cX6_keepCycle 138 = .ok (.getfield 7, 3) := by decide +kernel
theorem dX6_keepCycle_141 : decode cX6_keepCycle 141 = .ok (.bipush 66, 2) := by decide +kernel
theorem dX6_keepCycle_143 : decode cX6_keepCycle 143 = .ok (.iload_n 1, 1) := by decide +kernel
theorem dX6_keepCycle_144 : decode cX6_keepCycle 144 = .ok (.iadd, 1) := by decide +kernel
theorem dX6_keepCycle_145 : decode cX6_keepCycle 145 = .ok (.iaload, 1) := by decide +kernel
theorem dX6_keepCycle_146 : decode cX6_keepCycle 146 = .ok (.iadd, 1) := by decide +kernel
theorem dX6_keepCycle_147 : decode cX6_keepCycle 147 = .ok (.iadd, 1) := by decide +kernel
theorem dX6_keepCycle_148 : decode cX6_keepCycle 148 = .ok (.iastore, 1) := by decide +kernel
theorem dX6_keepCycle_149 : decode cX6_keepCycle 149 = .ok (.aload_n 0, 1) := by decide +kernel
theorem dX6_keepCycle_150 : decode cX6_keepCycle 150 = .ok (.getfield 7, 3) := by decide +kernel
theorem dX6_keepCycle_153 : decode cX6_keepCycle 153 = .ok (.bipush 36, 2) := by decide +kernel
theorem dX6_keepCycle_155 : decode cX6_keepCycle 155 = .ok (.iload_n 1, 1) := by decide +kernel
theorem dX6_keepCycle_156 : decode cX6_keepCycle 156 = .ok (.iadd, 1) := by decide +kernel
theorem dX6_keepCycle_157 : decode cX6_keepCycle 157 = .ok (.dup2, 1) := by decide +kernel
theorem dX6_keepCycle_158 : decode cX6_keepCycle 158 = .ok (.iaload, 1) := by decide +kernel
theorem dX6_keepCycle_159 : decode cX6_keepCycle 159 = .ok (.aload_n 0, 1) := by decide +kernel
theorem dX6_keepCycle_160 : decode cX6_keepCycle 160 = .ok (.getfield 32, 3) := by decide +kernel
theorem dX6_keepCycle_163 : decode cX6_keepCycle 163 = .ok (.iload_n 1, 1) := by decide +kernel
theorem dX6_keepCycle_164 : decode cX6_keepCycle 164 = .ok (.baload, 1) := by decide +kernel
theorem dX6_keepCycle_165 : decode cX6_keepCycle 165 = .ok (.ifCond .eq 7, 3) := by decide +kernel
theorem dX6_keepCycle_168 : decode cX6_keepCycle 168 = .ok (.iconst 0, 1) := by decide +kernel
theorem dX6_keepCycle_169 : decode cX6_keepCycle 169 = .ok (.goto 4, 3) := by decide +kernel
theorem dX6_keepCycle_172 : decode cX6_keepCycle 172 = .ok (.iconst 1, 1) := by decide +kernel
theorem dX6_keepCycle_173 : decode cX6_keepCycle 173 = .ok (.iadd, 1) := by decide +kernel
theorem dX6_keepCycle_174 : decode cX6_keepCycle 174 = .ok (.iastore, 1) := by decide +kernel
theorem dX6_keepCycle_175 : decode cX6_keepCycle 175 = .ok (.return_, 1) := by decide +kernel
theorem dX6_cycle_0 : decode cX6_cycle 0 = .ok (.aload_n 0, 1) := by decide +kernel
theorem dX6_cycle_1 : decode cX6_cycle 1 = .ok (.invokevirtual 127, 3) := by decide +kernel
theorem dX6_cycle_4 : decode cX6_cycle 4 = .ok (.aload_n 0, 1) := by decide +kernel
theorem dX6_cycle_5 : decode cX6_cycle 5 = .ok (.getfield 7, 3) := by decide +kernel
theorem dX6_cycle_8 : decode cX6_cycle 8 = .ok (.sipush 134, 3) := by decide +kernel
theorem dX6_cycle_11 : decode cX6_cycle 11 = .ok (.iconst 0, 1) := by decide +kernel
theorem dX6_cycle_12 : decode cX6_cycle 12 = .ok (.iastore, 1) := by decide +kernel
theorem dX6_cycle_13 : decode cX6_cycle 13 = .ok (.iconst 0, 1) := by decide +kernel
theorem dX6_cycle_14 : decode cX6_cycle 14 = .ok (.istore_n 1, 1) := by decide +kernel
theorem dX6_cycle_15 : decode cX6_cycle 15 = .ok (.iload_n 1, 1) := by decide +kernel
theorem dX6_cycle_16 : decode cX6_cycle 16 = .ok (.bipush 6, 2) := by decide +kernel
theorem dX6_cycle_18 : decode cX6_cycle 18 = .ok (.if_icmp .ge 56, 3) := by decide +kernel
theorem dX6_cycle_21 : decode cX6_cycle 21 = .ok (.aload_n 0, 1) := by decide +kernel
theorem dX6_cycle_22 : decode cX6_cycle 22 = .ok (.iload_n 1, 1) := by decide +kernel
theorem dX6_cycle_23 : decode cX6_cycle 23 = .ok (.invokevirtual 130, 3) := by decide +kernel
theorem dX6_cycle_26 : decode cX6_cycle 26 = .ok (.aload_n 0, 1) := by decide +kernel
theorem dX6_cycle_27 : decode cX6_cycle 27 = .ok (.getfield 47, 3) := by decide +kernel
theorem dX6_cycle_30 : decode cX6_cycle 30 = .ok (.iload_n 1, 1) := by decide +kernel
theorem dX6_cycle_31 : decode cX6_cycle 31 = .ok (.aload_n 0, 1) := by decide +kernel
theorem dX6_cycle_32 : decode cX6_cycle 32 = .ok (.getfield 7, 3) := by decide +kernel
theorem dX6_cycle_35 : decode cX6_cycle 35 = .ok (.bipush 66, 2) := by decide +kernel
theorem dX6_cycle_37 : decode cX6_cycle 37 = .ok (.iload_n 1, 1) := by decide +kernel
theorem dX6_cycle_38 : decode cX6_cycle 38 = .ok (.iadd, 1) := by decide +kernel
theorem dX6_cycle_39 : decode cX6_cycle 39 = .ok (.iaload, 1) := by decide +kernel
theorem dX6_cycle_40 : decode cX6_cycle 40 = .ok (.iastore, 1) := by decide +kernel
theorem dX6_cycle_41 : decode cX6_cycle 41 = .ok (.aload_n 0, 1) := by decide +kernel
theorem dX6_cycle_42 : decode cX6_cycle 42 = .ok (.getfield 7, 3) := by decide +kernel
theorem dX6_cycle_45 : decode cX6_cycle 45 = .ok (.sipush 134, 3) := by decide +kernel
theorem dX6_cycle_48 : decode cX6_cycle 48 = .ok (.dup2, 1) := by decide +kernel
theorem dX6_cycle_49 : decode cX6_cycle 49 = .ok (.iaload, 1) := by decide +kernel
theorem dX6_cycle_50 : decode cX6_cycle 50 = .ok (.aload_n 0, 1) := by decide +kernel
theorem dX6_cycle_51 : decode cX6_cycle 51 = .ok (.getfield 23, 3) := by decide +kernel
theorem dX6_cycle_54 : decode cX6_cycle 54 = .ok (.iload_n 1, 1) := by decide +kernel
theorem dX6_cycle_55 : decode cX6_cycle 55 = .ok (.baload, 1) := by decide +kernel
theorem dX6_cycle_56 : decode cX6_cycle 56 = .ok (.ifCond .eq 9, 3) := by decide +kernel
theorem dX6_cycle_59 : decode cX6_cycle 59 = .ok (.iconst 1, 1) := by decide +kernel
theorem dX6_cycle_60 : decode cX6_cycle 60 = .ok (.iload_n 1, 1) := by decide +kernel
theorem dX6_cycle_61 : decode cX6_cycle 61 = .ok (.ishl, 1) := by decide +kernel
theorem dX6_cycle_62 : decode cX6_cycle 62 = .ok (.goto 4, 3) := by decide +kernel
theorem dX6_cycle_65 : decode cX6_cycle 65 = .ok (.iconst 0, 1) := by decide +kernel
theorem dX6_cycle_66 : decode cX6_cycle 66 = .ok (.ior, 1) := by decide +kernel
theorem dX6_cycle_67 : decode cX6_cycle 67 = .ok (.iastore, 1) := by decide +kernel
theorem dX6_cycle_68 : decode cX6_cycle 68 = .ok (.iinc 1 1, 3) := by decide +kernel
theorem dX6_cycle_71 : decode cX6_cycle 71 = .ok (.goto (-56), 3) := by decide +kernel
theorem dX6_cycle_74 : decode cX6_cycle 74 = .ok (.iconst 0, 1) := by decide +kernel
theorem dX6_cycle_75 : decode cX6_cycle 75 = .ok (.istore_n 1, 1) := by decide +kernel
theorem dX6_cycle_76 : decode cX6_cycle 76 = .ok (.iload_n 1, 1) := by decide +kernel
theorem dX6_cycle_77 : decode cX6_cycle 77 = .ok (.bipush 6, 2) := by decide +kernel
theorem dX6_cycle_79 : decode cX6_cycle 79 = .ok (.if_icmp .ge 14, 3) := by decide +kernel
theorem dX6_cycle_82 : decode cX6_cycle 82 = .ok (.aload_n 0, 1) := by decide +kernel
theorem dX6_cycle_83 : decode cX6_cycle 83 = .ok (.iload_n 1, 1) := by decide +kernel
theorem dX6_cycle_84 : decode cX6_cycle 84 = .ok (.invokevirtual 133, 3) := by decide +kernel
theorem dX6_cycle_87 : decode cX6_cycle 87 = .ok (.iinc 1 1, 3) := by decide +kernel
theorem dX6_cycle_90 : decode cX6_cycle 90 = .ok (.goto (-14), 3) := by decide +kernel
theorem dX6_cycle_93 : decode cX6_cycle 93 = .ok (.iconst 0, 1) := by decide +kernel
theorem dX6_cycle_94 : decode cX6_cycle 94 = .ok (.istore_n 1, 1) := by decide +kernel
theorem dX6_cycle_95 : decode cX6_cycle 95 = .ok (.iload_n 1, 1) := by decide +kernel
theorem dX6_cycle_96 : decode cX6_cycle 96 = .ok (.bipush 6, 2) := by decide +kernel
theorem dX6_cycle_98 : decode cX6_cycle 98 = .ok (.if_icmp .ge 14, 3) := by decide +kernel
theorem dX6_cycle_101 : decode cX6_cycle 101 = .ok (.aload_n 0, 1) := by decide +kernel
theorem dX6_cycle_102 : decode cX6_cycle 102 = .ok (.iload_n 1, 1) := by decide +kernel
theorem dX6_cycle_103 : decode cX6_cycle 103 = .ok (.invokevirtual 136, 3) := by decide +kernel
theorem dX6_cycle_106 : decode cX6_cycle 106 = .ok (.iinc 1 1, 3) := by decide +kernel
theorem dX6_cycle_109 : decode cX6_cycle 109 = .ok (.goto (-14), 3) := by decide +kernel
theorem dX6_cycle_112 : decode cX6_cycle 112 = .ok (.aload_n 0, 1) := by decide +kernel
theorem dX6_cycle_113 : decode cX6_cycle 113 = .ok (.getfield 7, 3) := by decide +kernel
theorem dX6_cycle_116 : decode cX6_cycle 116 = .ok (.sipush 133, 3) := by decide +kernel
theorem dX6_cycle_119 : decode cX6_cycle 119 = .ok (.dup2, 1) := by decide +kernel
theorem dX6_cycle_120 : decode cX6_cycle 120 = .ok (.iaload, 1) := by decide +kernel
theorem dX6_cycle_121 : decode cX6_cycle 121 = .ok (.iconst 1, 1) := by decide +kernel
theorem dX6_cycle_122 : decode cX6_cycle 122 = .ok (.iadd, 1) := by decide +kernel
theorem dX6_cycle_123 : decode cX6_cycle 123 = .ok (.iastore, 1) := by decide +kernel
theorem dX6_cycle_124 : decode cX6_cycle 124 = .ok (.return_, 1) := by decide +kernel
theorem dX6_setOf_0 : decode cX6_setOf 0 = .ok (.iconst 0, 1) := by decide +kernel
theorem dX6_setOf_1 : decode cX6_setOf 1 = .ok (.istore_n 2, 1) := by decide +kernel
theorem dX6_setOf_2 : decode cX6_setOf 2 = .ok (.iconst 0, 1) := by decide +kernel
theorem dX6_setOf_3 : decode cX6_setOf 3 = .ok (.istore_n 3, 1) := by decide +kernel
theorem dX6_setOf_4 : decode cX6_setOf 4 = .ok (.iload_n 3, 1) := by decide +kernel
theorem dX6_setOf_5 : decode cX6_setOf 5 = .ok (.bipush 6, 2) := by decide +kernel
theorem dX6_setOf_7 : decode cX6_setOf 7 = .ok (.if_icmp .ge 28, 3) := by decide +kernel
theorem dX6_setOf_10 : decode cX6_setOf 10 = .ok (.iload_n 2, 1) := by decide +kernel
theorem dX6_setOf_11 : decode cX6_setOf 11 = .ok (.aload_n 0, 1) := by decide +kernel
theorem dX6_setOf_12 : decode cX6_setOf 12 = .ok (.iload_n 3, 1) := by decide +kernel
theorem dX6_setOf_13 : decode cX6_setOf 13 = .ok (.iload_n 1, 1) := by decide +kernel
theorem dX6_setOf_14 : decode cX6_setOf 14 = .ok (.invokevirtual 54, 3) := by decide +kernel
theorem dX6_setOf_17 : decode cX6_setOf 17 = .ok (.ifCond .eq 9, 3) := by decide +kernel
theorem dX6_setOf_20 : decode cX6_setOf 20 = .ok (.iconst 1, 1) := by decide +kernel
theorem dX6_setOf_21 : decode cX6_setOf 21 = .ok (.iload_n 3, 1) := by decide +kernel
theorem dX6_setOf_22 : decode cX6_setOf 22 = .ok (.ishl, 1) := by decide +kernel
theorem dX6_setOf_23 : decode cX6_setOf 23 = .ok (.goto 4, 3) := by decide +kernel
theorem dX6_setOf_26 : decode cX6_setOf 26 = .ok (.iconst 0, 1) := by decide +kernel
theorem dX6_setOf_27 : decode cX6_setOf 27 = .ok (.ior, 1) := by decide +kernel
theorem dX6_setOf_28 : decode cX6_setOf 28 = .ok (.istore_n 2, 1) := by decide +kernel
theorem dX6_setOf_29 : decode cX6_setOf 29 = .ok (.iinc 3 1, 3) := by decide +kernel
theorem dX6_setOf_32 : decode cX6_setOf 32 = .ok (.goto (-28), 3) := by decide +kernel
theorem dX6_setOf_35 : decode cX6_setOf 35 = .ok (.iload_n 2, 1) := by decide +kernel
theorem dX6_setOf_36 : decode cX6_setOf 36 = .ok (.ireturn, 1) := by decide +kernel
theorem dX6_run_0 : decode cX6_run 0 = .ok (.iload_n 1, 1) := by decide +kernel
theorem dX6_run_1 : decode cX6_run 1 = .ok (.iconst 1, 1) := by decide +kernel
theorem dX6_run_2 : decode cX6_run 2 = .ok (.bipush 50, 2) := by decide +kernel
theorem dX6_run_4 : decode cX6_run 4 = .ok (.invokestatic 50, 3) := by decide +kernel
theorem dX6_run_7 : decode cX6_run 7 = .ok (.ifCond .ne 6, 3) := by decide +kernel
theorem dX6_run_10 : decode cX6_run 10 = .ok (.bipush (-2), 2) := by decide +kernel
theorem dX6_run_12 : decode cX6_run 12 = .ok (.ireturn, 1) := by decide +kernel
theorem dX6_run_13 : decode cX6_run 13 = .ok (.iconst 0, 1) := by decide +kernel
theorem dX6_run_14 : decode cX6_run 14 = .ok (.istore_n 2, 1) := by decide +kernel
theorem dX6_run_15 : decode cX6_run 15 = .ok (.iload_n 2, 1) := by decide +kernel
theorem dX6_run_16 : decode cX6_run 16 = .ok (.iload_n 1, 1) := by decide +kernel
theorem dX6_run_17 : decode cX6_run 17 = .ok (.if_icmp .ge 13, 3) := by decide +kernel
theorem dX6_run_20 : decode cX6_run 20 = .ok (.aload_n 0, 1) := by decide +kernel
theorem dX6_run_21 : decode cX6_run 21 = .ok (.invokevirtual 139, 3) := by decide +kernel
theorem dX6_run_24 : decode cX6_run 24 = .ok (.iinc 2 1, 3) := by decide +kernel
theorem dX6_run_27 : decode cX6_run 27 = .ok (.goto (-12), 3) := by decide +kernel
theorem dX6_run_30 : decode cX6_run 30 = .ok (.aload_n 0, 1) := by decide +kernel
theorem dX6_run_31 : decode cX6_run 31 = .ok (.iconst 4, 1) := by decide +kernel
theorem dX6_run_32 : decode cX6_run 32 = .ok (.invokevirtual 142, 3) := by decide +kernel
theorem dX6_run_35 : decode cX6_run 35 = .ok (.ireturn, 1) := by decide +kernel
theorem dX6_size_0 : decode cX6_size 0 = .ok (.iconst 0, 1) := by decide +kernel
theorem dX6_size_1 : decode cX6_size 1 = .ok (.istore_n 1, 1) := by decide +kernel
theorem dX6_size_2 : decode cX6_size 2 = .ok (.iconst 0, 1) := by decide +kernel
theorem dX6_size_3 : decode cX6_size 3 = .ok (.istore_n 2, 1) := by decide +kernel
theorem dX6_size_4 : decode cX6_size 4 = .ok (.iload_n 2, 1) := by decide +kernel
theorem dX6_size_5 : decode cX6_size 5 = .ok (.bipush 6, 2) := by decide +kernel
theorem dX6_size_7 : decode cX6_size 7 = .ok (.if_icmp .ge 17, 3) := by decide +kernel
theorem dX6_size_10 : decode cX6_size 10 = .ok (.iload_n 1, 1) := by decide +kernel
theorem dX6_size_11 : decode cX6_size 11 = .ok (.iload_n 0, 1) := by decide +kernel
theorem dX6_size_12 : decode cX6_size 12 = .ok (.iload_n 2, 1) := by decide +kernel
theorem dX6_size_13 : decode cX6_size 13 = .ok (.ishr, 1) := by decide +kernel
theorem dX6_size_14 : decode cX6_size 14 = .ok (.iconst 1, 1) := by decide +kernel
theorem dX6_size_15 : decode cX6_size 15 = .ok (.iand, 1) := by decide +kernel
theorem dX6_size_16 : decode cX6_size 16 = .ok (.iadd, 1) := by decide +kernel
theorem dX6_size_17 : decode cX6_size 17 = .ok (.istore_n 1, 1) := by decide +kernel
theorem dX6_size_18 : decode cX6_size 18 = .ok (.iinc 2 1, 3) := by decide +kernel
theorem dX6_size_21 : decode cX6_size 21 = .ok (.goto (-17), 3) := by decide +kernel
theorem dX6_size_24 : decode cX6_size 24 = .ok (.iload_n 1, 1) := by decide +kernel
theorem dX6_size_25 : decode cX6_size 25 = .ok (.ireturn, 1) := by decide +kernel
theorem dX6_told_0 : decode cX6_told 0 = .ok (.iload_n 1, 1) := by decide +kernel
theorem dX6_told_1 : decode cX6_told 1 = .ok (.invokestatic 58, 3) := by decide +kernel
theorem dX6_told_4 : decode cX6_told 4 = .ok (.ifCond .ne 5, 3) := by decide +kernel
theorem dX6_told_7 : decode cX6_told 7 = .ok (.iconst (-1), 1) := by decide +kernel
theorem dX6_told_8 : decode cX6_told 8 = .ok (.ireturn, 1) := by decide +kernel
theorem dX6_told_9 : decode cX6_told 9 = .ok (.iload_n 2, 1) := by decide +kernel
theorem dX6_told_10 : decode cX6_told 10 = .ok (.iconst 0, 1) := by decide +kernel
theorem dX6_told_11 : decode cX6_told 11 = .ok (.iconst 4, 1) := by decide +kernel
theorem dX6_told_12 : decode cX6_told 12 = .ok (.invokestatic 50, 3) := by decide +kernel
theorem dX6_told_15 : decode cX6_told 15 = .ok (.ifCond .eq 18, 3) := by decide +kernel
theorem dX6_told_18 : decode cX6_told 18 = .ok (.aload_n 0, 1) := by decide +kernel
theorem dX6_told_19 : decode cX6_told 19 = .ok (.getfield 7, 3) := by decide +kernel
theorem dX6_told_22 : decode cX6_told 22 = .ok (.bipush 30, 2) := by decide +kernel
theorem dX6_told_24 : decode cX6_told 24 = .ok (.bipush 6, 2) := by decide +kernel
theorem dX6_told_26 : decode cX6_told 26 = .ok (.iload_n 2, 1) := by decide +kernel
theorem dX6_told_27 : decode cX6_told 27 = .ok (.imul, 1) := by decide +kernel
theorem dX6_told_28 : decode cX6_told 28 = .ok (.iadd, 1) := by decide +kernel
theorem dX6_told_29 : decode cX6_told 29 = .ok (.iload_n 1, 1) := by decide +kernel
theorem dX6_told_30 : decode cX6_told 30 = .ok (.iadd, 1) := by decide +kernel
theorem dX6_told_31 : decode cX6_told 31 = .ok (.iaload, 1) := by decide +kernel
theorem dX6_told_32 : decode cX6_told 32 = .ok (.ireturn, 1) := by decide +kernel
theorem dX6_told_33 : decode cX6_told 33 = .ok (.iload_n 2, 1) := by decide +kernel
theorem dX6_told_34 : decode cX6_told 34 = .ok (.tableswitch 94 5 9 #[34, 47, 61, 71, 81], 34) := by decide +kernel
theorem dX6_told_68 : decode cX6_told 68 = .ok (.aload_n 0, 1) := by decide +kernel
theorem dX6_told_69 : decode cX6_told 69 = .ok (.getfield 7, 3) := by decide +kernel
theorem dX6_told_72 : decode cX6_told 72 = .ok (.bipush 60, 2) := by decide +kernel
theorem dX6_told_74 : decode cX6_told 74 = .ok (.iload_n 1, 1) := by decide +kernel
theorem dX6_told_75 : decode cX6_told 75 = .ok (.iadd, 1) := by decide +kernel
theorem dX6_told_76 : decode cX6_told 76 = .ok (.iaload, 1) := by decide +kernel
theorem dX6_told_77 : decode cX6_told 77 = .ok (.ldc 145, 2) := by decide +kernel
theorem dX6_told_79 : decode cX6_told 79 = .ok (.iadd, 1) := by decide +kernel
theorem dX6_told_80 : decode cX6_told 80 = .ok (.ireturn, 1) := by decide +kernel
theorem dX6_told_81 : decode cX6_told 81 = .ok (.aload_n 0, 1) := by decide +kernel
theorem dX6_told_82 : decode cX6_told 82 = .ok (.getfield 7, 3) := by decide +kernel
theorem dX6_told_85 : decode cX6_told 85 = .ok (.bipush 66, 2) := by decide +kernel
theorem dX6_told_87 : decode cX6_told 87 = .ok (.iload_n 1, 1) := by decide +kernel
theorem dX6_told_88 : decode cX6_told 88 = .ok (.iadd, 1) := by decide +kernel
theorem dX6_told_89 : decode cX6_told 89 = .ok (.iaload, 1) := by decide +kernel
theorem dX6_told_90 : decode cX6_told 90 = .ok (.sipush 1000, 3) := by decide +kernel
theorem dX6_told_93 : decode cX6_told 93 = .ok (.iadd, 1) := by decide +kernel
theorem dX6_told_94 : decode cX6_told 94 = .ok (.ireturn, 1) := by decide +kernel
theorem dX6_told_95 : decode cX6_told 95 = .ok (.aload_n 0, 1) := by decide +kernel
theorem dX6_told_96 : decode cX6_told 96 = .ok (.getfield 7, 3) := by decide +kernel
theorem dX6_told_99 : decode cX6_told 99 = .ok (.bipush 72, 2) := by decide +kernel
theorem dX6_told_101 : decode cX6_told 101 = .ok (.iload_n 1, 1) := by decide +kernel
theorem dX6_told_102 : decode cX6_told 102 = .ok (.iadd, 1) := by decide +kernel
theorem dX6_told_103 : decode cX6_told 103 = .ok (.iaload, 1) := by decide +kernel
theorem dX6_told_104 : decode cX6_told 104 = .ok (.ireturn, 1) := by decide +kernel
theorem dX6_told_105 : decode cX6_told 105 = .ok (.aload_n 0, 1) := by decide +kernel
theorem dX6_told_106 : decode cX6_told 106 = .ok (.getfield 7, 3) := by decide +kernel
theorem dX6_told_109 : decode cX6_told 109 = .ok (.bipush 78, 2) := by decide +kernel
theorem dX6_told_111 : decode cX6_told 111 = .ok (.iload_n 1, 1) := by decide +kernel
theorem dX6_told_112 : decode cX6_told 112 = .ok (.iadd, 1) := by decide +kernel
theorem dX6_told_113 : decode cX6_told 113 = .ok (.iaload, 1) := by decide +kernel
theorem dX6_told_114 : decode cX6_told 114 = .ok (.ireturn, 1) := by decide +kernel
theorem dX6_told_115 : decode cX6_told 115 = .ok (.aload_n 0, 1) := by decide +kernel
theorem dX6_told_116 : decode cX6_told 116 = .ok (.getfield 7, 3) := by decide +kernel
theorem dX6_told_119 : decode cX6_told 119 = .ok (.bipush 84, 2) := by decide +kernel
theorem dX6_told_121 : decode cX6_told 121 = .ok (.iload_n 1, 1) := by decide +kernel
theorem dX6_told_122 : decode cX6_told 122 = .ok (.iadd, 1) := by decide +kernel
theorem dX6_told_123 : decode cX6_told 123 = .ok (.iaload, 1) := by decide +kernel
theorem dX6_told_124 : decode cX6_told 124 = .ok (.invokestatic 146, 3) := by decide +kernel
theorem dX6_told_127 : decode cX6_told 127 = .ok (.ireturn, 1) := by decide +kernel
theorem dX6_told_128 : decode cX6_told 128 = .ok (.bipush (-2), 2) := by decide +kernel
theorem dX6_told_130 : decode cX6_told 130 = .ok (.ireturn, 1) := by decide +kernel
theorem dX6_seen_0 : decode cX6_seen 0 = .ok (.iload_n 1, 1) := by decide +kernel
theorem dX6_seen_1 : decode cX6_seen 1 = .ok (.invokestatic 58, 3) := by decide +kernel
theorem dX6_seen_4 : decode cX6_seen 4 = .ok (.ifCond .eq 10, 3) := by decide +kernel
theorem dX6_seen_7 : decode cX6_seen 7 = .ok (.iload_n 2, 1) := by decide +kernel
theorem dX6_seen_8 : decode cX6_seen 8 = .ok (.invokestatic 58, 3) := by decide +kernel
theorem dX6_seen_11 : decode cX6_seen 11 = .ok (.ifCond .ne 5, 3) := by decide +kernel
theorem dX6_seen_14 : decode cX6_seen 14 = .ok (.iconst (-1), 1) := by decide +kernel
theorem dX6_seen_15 : decode cX6_seen 15 = .ok (.ireturn, 1) := by decide +kernel
theorem dX6_seen_16 : decode cX6_seen 16 = .ok (.iload_n 1, 1) := by decide +kernel
theorem dX6_seen_17 : decode cX6_seen 17 = .ok (.iload_n 2, 1) := by decide +kernel
theorem dX6_seen_18 : decode cX6_seen 18 = .ok (.if_icmp .ne 6, 3) := by decide +kernel
theorem dX6_seen_21 : decode cX6_seen 21 = .ok (.bipush (-2), 2) := by decide +kernel
theorem dX6_seen_23 : decode cX6_seen 23 = .ok (.ireturn, 1) := by decide +kernel
theorem dX6_seen_24 : decode cX6_seen 24 = .ok (.aload_n 0, 1) := by decide +kernel
theorem dX6_seen_25 : decode cX6_seen 25 = .ok (.getfield 7, 3) := by decide +kernel
theorem dX6_seen_28 : decode cX6_seen 28 = .ok (.bipush 84, 2) := by decide +kernel
theorem dX6_seen_30 : decode cX6_seen 30 = .ok (.iload_n 1, 1) := by decide +kernel
theorem dX6_seen_31 : decode cX6_seen 31 = .ok (.iadd, 1) := by decide +kernel
theorem dX6_seen_32 : decode cX6_seen 32 = .ok (.iaload, 1) := by decide +kernel
theorem dX6_seen_33 : decode cX6_seen 33 = .ok (.iload_n 2, 1) := by decide +kernel
theorem dX6_seen_34 : decode cX6_seen 34 = .ok (.ishr, 1) := by decide +kernel
theorem dX6_seen_35 : decode cX6_seen 35 = .ok (.iconst 1, 1) := by decide +kernel
theorem dX6_seen_36 : decode cX6_seen 36 = .ok (.iand, 1) := by decide +kernel
theorem dX6_seen_37 : decode cX6_seen 37 = .ok (.iconst 1, 1) := by decide +kernel
theorem dX6_seen_38 : decode cX6_seen 38 = .ok (.if_icmp .ne 23, 3) := by decide +kernel
theorem dX6_seen_41 : decode cX6_seen 41 = .ok (.aload_n 0, 1) := by decide +kernel
theorem dX6_seen_42 : decode cX6_seen 42 = .ok (.getfield 7, 3) := by decide +kernel
theorem dX6_seen_45 : decode cX6_seen 45 = .ok (.bipush 96, 2) := by decide +kernel
theorem dX6_seen_47 : decode cX6_seen 47 = .ok (.bipush 6, 2) := by decide +kernel
theorem dX6_seen_49 : decode cX6_seen 49 = .ok (.iload_n 1, 1) := by decide +kernel
theorem dX6_seen_50 : decode cX6_seen 50 = .ok (.imul, 1) := by decide +kernel
theorem dX6_seen_51 : decode cX6_seen 51 = .ok (.iadd, 1) := by decide +kernel
theorem dX6_seen_52 : decode cX6_seen 52 = .ok (.iload_n 2, 1) := by decide +kernel
theorem dX6_seen_53 : decode cX6_seen 53 = .ok (.iadd, 1) := by decide +kernel
theorem dX6_seen_54 : decode cX6_seen 54 = .ok (.iaload, 1) := by decide +kernel
theorem dX6_seen_55 : decode cX6_seen 55 = .ok (.ldc 145, 2) := by decide +kernel
theorem dX6_seen_57 : decode cX6_seen 57 = .ok (.iadd, 1) := by decide +kernel
theorem dX6_seen_58 : decode cX6_seen 58 = .ok (.goto 5, 3) := by decide +kernel
theorem dX6_seen_61 : decode cX6_seen 61 = .ok (.bipush (-6), 2) := by decide +kernel
theorem dX6_seen_63 : decode cX6_seen 63 = .ok (.ireturn, 1) := by decide +kernel
theorem dX6_isWithin_0 : decode cX6_isWithin 0 = .ok (.iload_n 0, 1) := by decide +kernel
theorem dX6_isWithin_1 : decode cX6_isWithin 1 = .ok (.sipush (-5000), 3) := by decide +kernel
theorem dX6_isWithin_4 : decode cX6_isWithin 4 = .ok (.sipush 5000, 3) := by decide +kernel
theorem dX6_isWithin_7 : decode cX6_isWithin 7 = .ok (.invokestatic 50, 3) := by decide +kernel
theorem dX6_isWithin_10 : decode cX6_isWithin 10 = .ok (.ireturn, 1) := by decide +kernel
theorem dX6_trim_0 : decode cX6_trim 0 = .ok (.iload_n 1, 1) := by decide +kernel
theorem dX6_trim_1 : decode cX6_trim 1 = .ok (.iconst 1, 1) := by decide +kernel
theorem dX6_trim_2 : decode cX6_trim 2 = .ok (.iconst 4, 1) := by decide +kernel
theorem dX6_trim_3 : decode cX6_trim 3 = .ok (.invokestatic 50, 3) := by decide +kernel
theorem dX6_trim_6 : decode cX6_trim 6 = .ok (.ifCond .eq 48, 3) := by decide +kernel
theorem dX6_trim_9 : decode cX6_trim 9 = .ok (.iload_n 2, 1) := by decide +kernel
theorem dX6_trim_10 : decode cX6_trim 10 = .ok (.invokestatic 149, 3) := by decide +kernel
theorem dX6_trim_13 : decode cX6_trim 13 = .ok (.ifCond .eq 41, 3) := by decide +kernel
theorem dX6_trim_16 : decode cX6_trim 16 = .ok (.iload_n 1, 1) := by decide +kernel
theorem dX6_trim_17 : decode cX6_trim 17 = .ok (.iconst 1, 1) := by decide +kernel
theorem dX6_trim_18 : decode cX6_trim 18 = .ok (.if_icmp .le 10, 3) := by decide +kernel
theorem dX6_trim_21 : decode cX6_trim 21 = .ok (.iload_n 3, 1) := by decide +kernel
theorem dX6_trim_22 : decode cX6_trim 22 = .ok (.invokestatic 149, 3) := by decide +kernel
theorem dX6_trim_25 : decode cX6_trim 25 = .ok (.ifCond .eq 29, 3) := by decide +kernel
theorem dX6_trim_28 : decode cX6_trim 28 = .ok (.iload_n 1, 1) := by decide +kernel
theorem dX6_trim_29 : decode cX6_trim 29 = .ok (.iconst 2, 1) := by decide +kernel
theorem dX6_trim_30 : decode cX6_trim 30 = .ok (.if_icmp .le 11, 3) := by decide +kernel
theorem dX6_trim_33 : decode cX6_trim 33 = .ok (.iload 4, 2) := by decide +kernel
theorem dX6_trim_35 : decode cX6_trim 35 = .ok (.invokestatic 149, 3) := by decide +kernel
theorem dX6_trim_38 : decode cX6_trim 38 = .ok (.ifCond .eq 16, 3) := by decide +kernel
theorem dX6_trim_41 : decode cX6_trim 41 = .ok (.iload_n 1, 1) := by decide +kernel
theorem dX6_trim_42 : decode cX6_trim 42 = .ok (.iconst 3, 1) := by decide +kernel
theorem dX6_trim_43 : decode cX6_trim 43 = .ok (.if_icmp .le 14, 3) := by decide +kernel
theorem dX6_trim_46 : decode cX6_trim 46 = .ok (.iload 5, 2) := by decide +kernel
theorem dX6_trim_48 : decode cX6_trim 48 = .ok (.invokestatic 149, 3) := by decide +kernel
theorem dX6_trim_51 : decode cX6_trim 51 = .ok (.ifCond .ne 6, 3) := by decide +kernel
theorem dX6_trim_54 : decode cX6_trim 54 = .ok (.bipush (-2), 2) := by decide +kernel
theorem dX6_trim_56 : decode cX6_trim 56 = .ok (.ireturn, 1) := by decide +kernel
theorem dX6_trim_57 : decode cX6_trim 57 = .ok (.aload_n 0, 1) := by decide +kernel
theorem dX6_trim_58 : decode cX6_trim 58 = .ok (.iconst 0, 1) := by decide +kernel
theorem dX6_trim_59 : decode cX6_trim 59 = .ok (.putfield 72, 3) := by decide +kernel
theorem dX6_trim_62 : decode cX6_trim 62 = .ok (.aload_n 0, 1) := by decide +kernel
theorem dX6_trim_63 : decode cX6_trim 63 = .ok (.iload_n 2, 1) := by decide +kernel
theorem dX6_trim_64 : decode cX6_trim 64 = .ok (.invokevirtual 95, 3) := by decide +kernel
theorem dX6_trim_67 : decode cX6_trim 67 = .ok (.iload_n 1, 1) := by decide +kernel
theorem dX6_trim_68 : decode cX6_trim 68 = .ok (.iconst 1, 1) := by decide +kernel
theorem dX6_trim_69 : decode cX6_trim 69 = .ok (.if_icmp .le 8, 3) := by decide +kernel
theorem dX6_trim_72 : decode cX6_trim 72 = .ok (.aload_n 0, 1) := by decide +kernel
theorem dX6_trim_73 : decode cX6_trim 73 = .ok (.iload_n 3, 1) := by decide +kernel
theorem dX6_trim_74 : decode cX6_trim 74 = .ok (.invokevirtual 95, 3) := by decide +kernel
theorem dX6_trim_77 : decode cX6_trim 77 = .ok (.iload_n 1, 1) := by decide +kernel
theorem dX6_trim_78 : decode cX6_trim 78 = .ok (.iconst 2, 1) := by decide +kernel
theorem dX6_trim_79 : decode cX6_trim 79 = .ok (.if_icmp .le 9, 3) := by decide +kernel
theorem dX6_trim_82 : decode cX6_trim 82 = .ok (.aload_n 0, 1) := by decide +kernel
theorem dX6_trim_83 : decode cX6_trim 83 = .ok (.iload 4, 2) := by decide +kernel
theorem dX6_trim_85 : decode cX6_trim 85 = .ok (.invokevirtual 95, 3) := by decide +kernel
theorem dX6_trim_88 : decode cX6_trim 88 = .ok (.iload_n 1, 1) := by decide +kernel
theorem dX6_trim_89 : decode cX6_trim 89 = .ok (.iconst 3, 1) := by decide +kernel
theorem dX6_trim_90 : decode cX6_trim 90 = .ok (.if_icmp .le 9, 3) := by decide +kernel
theorem dX6_trim_93 : decode cX6_trim 93 = .ok (.aload_n 0, 1) := by decide +kernel
theorem dX6_trim_94 : decode cX6_trim 94 = .ok (.iload 5, 2) := by decide +kernel
theorem dX6_trim_96 : decode cX6_trim 96 = .ok (.invokevirtual 95, 3) := by decide +kernel
theorem dX6_trim_99 : decode cX6_trim 99 = .ok (.aload_n 0, 1) := by decide +kernel
theorem dX6_trim_100 : decode cX6_trim 100 = .ok (.invokevirtual 98, 3) := by decide +kernel
theorem dX6_trim_103 : decode cX6_trim 103 = .ok (.ldc 145, 2) := by decide +kernel
theorem dX6_trim_105 : decode cX6_trim 105 = .ok (.iadd, 1) := by decide +kernel
theorem dX6_trim_106 : decode cX6_trim 106 = .ok (.ireturn, 1) := by decide +kernel
theorem dX6_event_0 : decode cX6_event 0 = .ok (.iload_n 2, 1) := by decide +kernel
theorem dX6_event_1 : decode cX6_event 1 = .ok (.iconst 0, 1) := by decide +kernel
theorem dX6_event_2 : decode cX6_event 2 = .ok (.iconst 2, 1) := by decide +kernel
theorem dX6_event_3 : decode cX6_event 3 = .ok (.invokestatic 50, 3) := by decide +kernel
theorem dX6_event_6 : decode cX6_event 6 = .ok (.ifCond .ne 6, 3) := by decide +kernel
theorem dX6_event_9 : decode cX6_event 9 = .ok (.bipush (-2), 2) := by decide +kernel
theorem dX6_event_11 : decode cX6_event 11 = .ok (.ireturn, 1) := by decide +kernel
theorem dX6_event_12 : decode cX6_event 12 = .ok (.iload_n 1, 1) := by decide +kernel
theorem dX6_event_13 : decode cX6_event 13 = .ok (.iconst (-1), 1) := by decide +kernel
theorem dX6_event_14 : decode cX6_event 14 = .ok (.if_icmp .ne 14, 3) := by decide +kernel
theorem dX6_event_17 : decode cX6_event 17 = .ok (.aload_n 0, 1) := by decide +kernel
theorem dX6_event_18 : decode cX6_event 18 = .ok (.getfield 7, 3) := by decide +kernel
theorem dX6_event_21 : decode cX6_event 21 = .ok (.sipush 135, 3) := by decide +kernel
theorem dX6_event_24 : decode cX6_event 24 = .ok (.iaload, 1) := by decide +kernel
theorem dX6_event_25 : decode cX6_event 25 = .ok (.goto 40, 3) := by decide +kernel
theorem dX6_event_28 : decode cX6_event 28 = .ok (.iload_n 1, 1) := by decide +kernel
theorem dX6_event_29 : decode cX6_event 29 = .ok (.iconst 0, 1) := by decide +kernel
theorem dX6_event_30 : decode cX6_event 30 = .ok (.aload_n 0, 1) := by decide +kernel
theorem dX6_event_31 : decode cX6_event 31 = .ok (.getfield 7, 3) := by decide +kernel
theorem dX6_event_34 : decode cX6_event 34 = .ok (.sipush 135, 3) := by decide +kernel
theorem dX6_event_37 : decode cX6_event 37 = .ok (.iaload, 1) := by decide +kernel
theorem dX6_event_38 : decode cX6_event 38 = .ok (.iconst 1, 1) := by decide +kernel
theorem dX6_event_39 : decode cX6_event 39 = .ok (.isub, 1) := by decide +kernel
theorem dX6_event_40 : decode cX6_event 40 = .ok (.invokestatic 50, 3) := by decide +kernel
theorem dX6_event_43 : decode cX6_event 43 = .ok (.ifCond .eq 20, 3) := by decide +kernel
theorem dX6_event_46 : decode cX6_event 46 = .ok (.aload_n 0, 1) := by decide +kernel
theorem dX6_event_47 : decode cX6_event 47 = .ok (.getfield 7, 3) := by decide +kernel
theorem dX6_event_50 : decode cX6_event 50 = .ok (.sipush 136, 3) := by decide +kernel
theorem dX6_event_53 : decode cX6_event 53 = .ok (.iconst 3, 1) := by decide +kernel
theorem dX6_event_54 : decode cX6_event 54 = .ok (.iload_n 1, 1) := by decide +kernel
theorem dX6_event_55 : decode cX6_event 55 = .ok (.imul, 1) := by decide +kernel
theorem dX6_event_56 : decode cX6_event 56 = .ok (.iadd, 1) := by decide +kernel
theorem dX6_event_57 : decode cX6_event 57 = .ok (.iload_n 2, 1) := by decide +kernel
theorem dX6_event_58 : decode cX6_event 58 = .ok (.iadd, 1) := by decide +kernel
theorem dX6_event_59 : decode cX6_event 59 = .ok (.iaload, 1) := by decide +kernel
theorem dX6_event_60 : decode cX6_event 60 = .ok (.goto 5, 3) := by decide +kernel
theorem dX6_event_63 : decode cX6_event 63 = .ok (.bipush (-6), 2) := by decide +kernel
theorem dX6_event_65 : decode cX6_event 65 = .ok (.ireturn, 1) := by decide +kernel
theorem dX6_spreadBut_0 : decode cX6_spreadBut 0 = .ok (.iconst 0, 1) := by decide +kernel
theorem dX6_spreadBut_1 : decode cX6_spreadBut 1 = .ok (.istore_n 2, 1) := by decide +kernel
theorem dX6_spreadBut_2 : decode cX6_spreadBut 2 = .ok (.iconst 0, 1) := by decide +kernel
theorem dX6_spreadBut_3 : decode cX6_spreadBut 3 = .ok (.istore_n 3, 1) := by decide +kernel
theorem dX6_spreadBut_4 : decode cX6_spreadBut 4 = .ok (.iconst 0, 1) := by decide +kernel
theorem dX6_spreadBut_5 : decode cX6_spreadBut 5 = .ok (.istore 4, 2) := by decide +kernel
theorem dX6_spreadBut_7 : decode cX6_spreadBut 7 = .ok (.iconst 0, 1) := by decide +kernel
theorem dX6_spreadBut_8 : decode cX6_spreadBut 8 = .ok (.istore 5, 2) := by decide +kernel
theorem dX6_spreadBut_10 : decode cX6_spreadBut 10 = .ok (.iload 5, 2) := by decide +kernel
theorem dX6_spreadBut_12 : decode cX6_spreadBut 12 = .ok (.bipush 6, 2) := by decide +kernel
theorem dX6_spreadBut_14 : decode cX6_spreadBut 14 = .ok (.if_icmp .ge 97, 3) := by decide +kernel
theorem dX6_spreadBut_17 : decode cX6_spreadBut 17 = .ok (.iload 5, 2) := by decide +kernel
theorem dX6_spreadBut_19 : decode cX6_spreadBut 19 = .ok (.iload_n 1, 1) := by decide +kernel
theorem dX6_spreadBut_20 : decode cX6_spreadBut 20 = .ok (.if_icmp .eq 85, 3) := by decide +kernel
theorem dX6_spreadBut_23 : decode cX6_spreadBut 23 = .ok (.aload_n 0, 1) := by decide +kernel
theorem dX6_spreadBut_24 : decode cX6_spreadBut 24 = .ok (.iload 5, 2) := by decide +kernel
theorem dX6_spreadBut_26 : decode cX6_spreadBut 26 = .ok (.iconst 4, 1) := by decide +kernel
theorem dX6_spreadBut_27 : decode cX6_spreadBut 27 = .ok (.invokevirtual 54, 3) := by decide +kernel
theorem dX6_spreadBut_30 : decode cX6_spreadBut 30 = .ok (.ifCond .eq 75, 3) := by decide +kernel
theorem dX6_spreadBut_33 : decode cX6_spreadBut 33 = .ok (.iload_n 2, 1) := by decide +kernel
theorem dX6_spreadBut_34 : decode cX6_spreadBut 34 = .ok (.ifCond .eq 17, 3) := by decide +kernel
theorem dX6_spreadBut_37 : decode cX6_spreadBut 37 = .ok (.aload_n 0, 1) := by decide +kernel
theorem dX6_spreadBut_38 : decode cX6_spreadBut 38 = .ok (.getfield 7, 3) := by decide +kernel
theorem dX6_spreadBut_41 : decode cX6_spreadBut 41 = .ok (.bipush 60, 2) := by decide +kernel
theorem dX6_spreadBut_43 : decode cX6_spreadBut 43 = .ok (.iload 5, 2) := by decide +kernel
theorem dX6_spreadBut_45 : decode cX6_spreadBut 45 = .ok (.iadd, 1) := by decide +kernel
theorem dX6_spreadBut_46 : decode cX6_spreadBut 46 = .ok (.iaload, 1) := by decide +kernel
theorem dX6_spreadBut_47 : decode cX6_spreadBut 47 = .ok (.iload_n 3, 1) := by decide +kernel
theorem dX6_spreadBut_48 : decode cX6_spreadBut 48 = .ok (.if_icmp .ge 16, 3) := by decide +kernel
theorem dX6_spreadBut_51 : decode cX6_spreadBut 51 = .ok (.aload_n 0, 1) := by decide +kernel
theorem dX6_spreadBut_52 : decode cX6_spreadBut 52 = .ok (.getfield 7, 3) := by decide +kernel
theorem dX6_spreadBut_55 : decode cX6_spreadBut 55 = .ok (.bipush 60, 2) := by decide +kernel
theorem dX6_spreadBut_57 : decode cX6_spreadBut 57 = .ok (.iload 5, 2) := by decide +kernel
theorem dX6_spreadBut_59 : decode cX6_spreadBut 59 = .ok (.iadd, 1) := by decide +kernel
theorem dX6_spreadBut_60 : decode cX6_spreadBut 60 = .ok (.iaload, 1) := by decide +kernel
theorem dX6_spreadBut_61 : decode cX6_spreadBut 61 = .ok (.goto 4, 3) := by decide +kernel
theorem dX6_spreadBut_64 : decode cX6_spreadBut 64 = .ok (.iload_n 3, 1) := by decide +kernel
theorem dX6_spreadBut_65 : decode cX6_spreadBut 65 = .ok (.istore_n 3, 1) := by decide +kernel
theorem dX6_spreadBut_66 : decode cX6_spreadBut 66 = .ok (.iload_n 2, 1) := by decide +kernel
theorem dX6_spreadBut_67 : decode cX6_spreadBut 67 = .ok (.ifCond .eq 18, 3) := by decide +kernel
theorem dX6_spreadBut_70 : decode cX6_spreadBut 70 = .ok (.aload_n 0, 1) := by decide +kernel
theorem dX6_spreadBut_71 : decode cX6_spreadBut 71 = .ok (.getfield 7, 3) := by decide +kernel
theorem dX6_spreadBut_74 : decode cX6_spreadBut 74 = .ok (.bipush 60, 2) := by decide +kernel
theorem dX6_spreadBut_76 : decode cX6_spreadBut 76 = .ok (.iload 5, 2) := by decide +kernel
theorem dX6_spreadBut_78 : decode cX6_spreadBut 78 = .ok (.iadd, 1) := by decide +kernel
theorem dX6_spreadBut_79 : decode cX6_spreadBut 79 = .ok (.iaload, 1) := by decide +kernel
theorem dX6_spreadBut_80 : decode cX6_spreadBut 80 = .ok (.iload 4, 2) := by decide +kernel
theorem dX6_spreadBut_82 : decode cX6_spreadBut 82 = .ok (.if_icmp .le 16, 3) := by decide +kernel
theorem dX6_spreadBut_85 : decode cX6_spreadBut 85 = .ok (.aload_n 0, 1) := by decide +kernel
theorem dX6_spreadBut_86 : decode cX6_spreadBut 86 = .ok (.getfield 7, 3) := by decide +kernel
theorem dX6_spreadBut_89 : decode cX6_spreadBut 89 = .ok (.bipush 60, 2) := by decide +kernel
theorem dX6_spreadBut_91 : decode cX6_spreadBut 91 = .ok (.iload 5, 2) := by decide +kernel
theorem dX6_spreadBut_93 : decode cX6_spreadBut 93 = .ok (.iadd, 1) := by decide +kernel
theorem dX6_spreadBut_94 : decode cX6_spreadBut 94 = .ok (.iaload, 1) := by decide +kernel
theorem dX6_spreadBut_95 : decode cX6_spreadBut 95 = .ok (.goto 5, 3) := by decide +kernel
theorem dX6_spreadBut_98 : decode cX6_spreadBut 98 = .ok (.iload 4, 2) := by decide +kernel
theorem dX6_spreadBut_100 : decode cX6_spreadBut 100 = .ok (.istore 4, 2) := by decide +kernel
theorem dX6_spreadBut_102 : decode cX6_spreadBut 102 = .ok (.iinc 2 1, 3) := by decide +kernel
theorem dX6_spreadBut_105 : decode cX6_spreadBut 105 = .ok (.iinc 5 1, 3) := by decide +kernel
theorem dX6_spreadBut_108 : decode cX6_spreadBut 108 = .ok (.goto (-98), 3) := by decide +kernel
theorem dX6_spreadBut_111 : decode cX6_spreadBut 111 = .ok (.iload 4, 2) := by decide +kernel
theorem dX6_spreadBut_113 : decode cX6_spreadBut 113 = .ok (.iload_n 3, 1) := by decide +kernel
theorem dX6_spreadBut_114 : decode cX6_spreadBut 114 = .ok (.isub, 1) := by decide +kernel
theorem dX6_spreadBut_115 : decode cX6_spreadBut 115 = .ok (.ireturn, 1) := by decide +kernel
theorem dX6_spread_0 : decode cX6_spread 0 = .ok (.aload_n 0, 1) := by decide +kernel
theorem dX6_spread_1 : decode cX6_spread 1 = .ok (.bipush (-6), 2) := by decide +kernel
theorem dX6_spread_3 : decode cX6_spread 3 = .ok (.invokevirtual 152, 3) := by decide +kernel
theorem dX6_spread_6 : decode cX6_spread 6 = .ok (.ireturn, 1) := by decide +kernel
theorem dX6_save_0 : decode cX6_save 0 = .ok (.iconst 0, 1) := by decide +kernel
theorem dX6_save_1 : decode cX6_save 1 = .ok (.istore_n 2, 1) := by decide +kernel
theorem dX6_save_2 : decode cX6_save 2 = .ok (.iload_n 2, 1) := by decide +kernel
theorem dX6_save_3 : decode cX6_save 3 = .ok (.sipush 256, 3) := by decide +kernel
theorem dX6_save_6 : decode cX6_save 6 = .ok (.if_icmp .ge 27, 3) := by decide +kernel
theorem dX6_save_9 : decode cX6_save 9 = .ok (.aload_n 0, 1) := by decide +kernel
theorem dX6_save_10 : decode cX6_save 10 = .ok (.getfield 13, 3) := by decide +kernel
theorem dX6_save_13 : decode cX6_save 13 = .ok (.sipush 256, 3) := by decide +kernel
theorem dX6_save_16 : decode cX6_save 16 = .ok (.iload_n 1, 1) := by decide +kernel
theorem dX6_save_17 : decode cX6_save 17 = .ok (.imul, 1) := by decide +kernel
theorem dX6_save_18 : decode cX6_save 18 = .ok (.iload_n 2, 1) := by decide +kernel
theorem dX6_save_19 : decode cX6_save 19 = .ok (.iadd, 1) := by decide +kernel
theorem dX6_save_20 : decode cX6_save 20 = .ok (.aload_n 0, 1) := by decide +kernel
theorem dX6_save_21 : decode cX6_save 21 = .ok (.getfield 7, 3) := by decide +kernel
theorem dX6_save_24 : decode cX6_save 24 = .ok (.iload_n 2, 1) := by decide +kernel
theorem dX6_save_25 : decode cX6_save 25 = .ok (.iaload, 1) := by decide +kernel
theorem dX6_save_26 : decode cX6_save 26 = .ok (.iastore, 1) := by decide +kernel
theorem dX6_save_27 : decode cX6_save 27 = .ok (.iinc 2 1, 3) := by decide +kernel
theorem dX6_save_30 : decode cX6_save 30 = .ok (.goto (-28), 3) := by decide +kernel
theorem dX6_save_33 : decode cX6_save 33 = .ok (.return_, 1) := by decide +kernel
theorem dX6_load_0 : decode cX6_load 0 = .ok (.iconst 0, 1) := by decide +kernel
theorem dX6_load_1 : decode cX6_load 1 = .ok (.istore_n 2, 1) := by decide +kernel
theorem dX6_load_2 : decode cX6_load 2 = .ok (.iload_n 2, 1) := by decide +kernel
theorem dX6_load_3 : decode cX6_load 3 = .ok (.sipush 256, 3) := by decide +kernel
theorem dX6_load_6 : decode cX6_load 6 = .ok (.if_icmp .ge 27, 3) := by decide +kernel
theorem dX6_load_9 : decode cX6_load 9 = .ok (.aload_n 0, 1) := by decide +kernel
theorem dX6_load_10 : decode cX6_load 10 = .ok (.getfield 7, 3) := by decide +kernel
theorem dX6_load_13 : decode cX6_load 13 = .ok (.iload_n 2, 1) := by decide +kernel
theorem dX6_load_14 : decode cX6_load 14 = .ok (.aload_n 0, 1) := by decide +kernel
theorem dX6_load_15 : decode cX6_load 15 = .ok (.getfield 13, 3) := by decide +kernel
theorem dX6_load_18 : decode cX6_load 18 = .ok (.sipush 256, 3) := by decide +kernel
theorem dX6_load_21 : decode cX6_load 21 = .ok (.iload_n 1, 1) := by decide +kernel
theorem dX6_load_22 : decode cX6_load 22 = .ok (.imul, 1) := by decide +kernel
theorem dX6_load_23 : decode cX6_load 23 = .ok (.iload_n 2, 1) := by decide +kernel
theorem dX6_load_24 : decode cX6_load 24 = .ok (.iadd, 1) := by decide +kernel
theorem dX6_load_25 : decode cX6_load 25 = .ok (.iaload, 1) := by decide +kernel
theorem dX6_load_26 : decode cX6_load 26 = .ok (.iastore, 1) := by decide +kernel
theorem dX6_load_27 : decode cX6_load 27 = .ok (.iinc 2 1, 3) := by decide +kernel
theorem dX6_load_30 : decode cX6_load 30 = .ok (.goto (-28), 3) := by decide +kernel
theorem dX6_load_33 : decode cX6_load 33 = .ok (.return_, 1) := by decide +kernel
theorem dX6_inSet_0 : decode cX6_inSet 0 = .ok (.iconst 0, 1) := by decide +kernel
theorem dX6_inSet_1 : decode cX6_inSet 1 = .ok (.istore_n 1, 1) := by decide +kernel
theorem dX6_inSet_2 : decode cX6_inSet 2 = .ok (.iconst 0, 1) := by decide +kernel
theorem dX6_inSet_3 : decode cX6_inSet 3 = .ok (.istore_n 2, 1) := by decide +kernel
theorem dX6_inSet_4 : decode cX6_inSet 4 = .ok (.iload_n 2, 1) := by decide +kernel
theorem dX6_inSet_5 : decode cX6_inSet 5 = .ok (.bipush 6, 2) := by decide +kernel
theorem dX6_inSet_7 : decode cX6_inSet 7 = .ok (.if_icmp .ge 27, 3) := by decide +kernel
theorem dX6_inSet_10 : decode cX6_inSet 10 = .ok (.iload_n 1, 1) := by decide +kernel
theorem dX6_inSet_11 : decode cX6_inSet 11 = .ok (.aload_n 0, 1) := by decide +kernel
theorem dX6_inSet_12 : decode cX6_inSet 12 = .ok (.iload_n 2, 1) := by decide +kernel
theorem dX6_inSet_13 : decode cX6_inSet 13 = .ok (.invokevirtual 65, 3) := by decide +kernel
theorem dX6_inSet_16 : decode cX6_inSet 16 = .ok (.ifCond .eq 7, 3) := by decide +kernel
theorem dX6_inSet_19 : decode cX6_inSet 19 = .ok (.iconst 0, 1) := by decide +kernel
theorem dX6_inSet_20 : decode cX6_inSet 20 = .ok (.goto 6, 3) := by decide +kernel
theorem dX6_inSet_23 : decode cX6_inSet 23 = .ok (.iconst 1, 1) := by decide +kernel
theorem dX6_inSet_24 : decode cX6_inSet 24 = .ok (.iload_n 2, 1) := by decide +kernel
theorem dX6_inSet_25 : decode cX6_inSet 25 = .ok (.ishl, 1) := by decide +kernel
theorem dX6_inSet_26 : decode cX6_inSet 26 = .ok (.ior, 1) := by decide +kernel
theorem dX6_inSet_27 : decode cX6_inSet 27 = .ok (.istore_n 1, 1) := by decide +kernel
theorem dX6_inSet_28 : decode cX6_inSet 28 = .ok (.iinc 2 1, 3) := by decide +kernel
theorem dX6_inSet_31 : decode cX6_inSet 31 = .ok (.goto (-27), 3) := by decide +kernel
theorem dX6_inSet_34 : decode cX6_inSet 34 = .ok (.iload_n 1, 1) := by decide +kernel
theorem dX6_inSet_35 : decode cX6_inSet 35 = .ok (.ireturn, 1) := by decide +kernel
theorem dX6_soon_0 : decode cX6_soon 0 = .ok (.aload_n 0, 1) := by decide +kernel
theorem dX6_soon_1 : decode cX6_soon 1 = .ok (.invokevirtual 155, 3) := by decide +kernel
theorem dX6_soon_4 : decode cX6_soon 4 = .ok (.istore_n 1, 1) := by decide +kernel
theorem dX6_soon_5 : decode cX6_soon 5 = .ok (.iload_n 1, 1) := by decide +kernel
theorem dX6_soon_6 : decode cX6_soon 6 = .ok (.ifCond .ne 6, 3) := by decide +kernel
theorem dX6_soon_9 : decode cX6_soon 9 = .ok (.bipush (-6), 2) := by decide +kernel
theorem dX6_soon_11 : decode cX6_soon 11 = .ok (.ireturn, 1) := by decide +kernel
theorem dX6_soon_12 : decode cX6_soon 12 = .ok (.aload_n 0, 1) := by decide +kernel
theorem dX6_soon_13 : decode cX6_soon 13 = .ok (.iconst 2, 1) := by decide +kernel
theorem dX6_soon_14 : decode cX6_soon 14 = .ok (.invokevirtual 158, 3) := by decide +kernel
theorem dX6_soon_17 : decode cX6_soon 17 = .ok (.iconst 0, 1) := by decide +kernel
theorem dX6_soon_18 : decode cX6_soon 18 = .ok (.istore_n 2, 1) := by decide +kernel
theorem dX6_soon_19 : decode cX6_soon 19 = .ok (.iload_n 2, 1) := by decide +kernel
theorem dX6_soon_20 : decode cX6_soon 20 = .ok (.sipush 200, 3) := by decide +kernel
theorem dX6_soon_23 : decode cX6_soon 23 = .ok (.if_icmp .ge 25, 3) := by decide +kernel
theorem dX6_soon_26 : decode cX6_soon 26 = .ok (.iload_n 1, 1) := by decide +kernel
theorem dX6_soon_27 : decode cX6_soon 27 = .ok (.aload_n 0, 1) := by decide +kernel
theorem dX6_soon_28 : decode cX6_soon 28 = .ok (.iconst 4, 1) := by decide +kernel
theorem dX6_soon_29 : decode cX6_soon 29 = .ok (.invokevirtual 142, 3) := by decide +kernel
theorem dX6_soon_32 : decode cX6_soon 32 = .ok (.iconst (-1), 1) := by decide +kernel
theorem dX6_soon_33 : decode cX6_soon 33 = .ok (.ixor, 1) := by decide +kernel
theorem dX6_soon_34 : decode cX6_soon 34 = .ok (.iand, 1) := by decide +kernel
theorem dX6_soon_35 : decode cX6_soon 35 = .ok (.ifCond .eq 13, 3) := by decide +kernel
theorem dX6_soon_38 : decode cX6_soon 38 = .ok (.aload_n 0, 1) := by decide +kernel
theorem dX6_soon_39 : decode cX6_soon 39 = .ok (.invokevirtual 139, 3) := by decide +kernel
theorem dX6_soon_42 : decode cX6_soon 42 = .ok (.iinc 2 1, 3) := by decide +kernel
theorem dX6_soon_45 : decode cX6_soon 45 = .ok (.goto (-26), 3) := by decide +kernel
theorem dX6_soon_48 : decode cX6_soon 48 = .ok (.iload_n 1, 1) := by decide +kernel
theorem dX6_soon_49 : decode cX6_soon 49 = .ok (.aload_n 0, 1) := by decide +kernel
theorem dX6_soon_50 : decode cX6_soon 50 = .ok (.iconst 4, 1) := by decide +kernel
theorem dX6_soon_51 : decode cX6_soon 51 = .ok (.invokevirtual 142, 3) := by decide +kernel
theorem dX6_soon_54 : decode cX6_soon 54 = .ok (.iconst (-1), 1) := by decide +kernel
theorem dX6_soon_55 : decode cX6_soon 55 = .ok (.ixor, 1) := by decide +kernel
theorem dX6_soon_56 : decode cX6_soon 56 = .ok (.iand, 1) := by decide +kernel
theorem dX6_soon_57 : decode cX6_soon 57 = .ok (.ifCond .ne 7, 3) := by decide +kernel
theorem dX6_soon_60 : decode cX6_soon 60 = .ok (.iconst 1, 1) := by decide +kernel
theorem dX6_soon_61 : decode cX6_soon 61 = .ok (.goto 4, 3) := by decide +kernel
theorem dX6_soon_64 : decode cX6_soon 64 = .ok (.iconst 0, 1) := by decide +kernel
theorem dX6_soon_65 : decode cX6_soon 65 = .ok (.istore_n 3, 1) := by decide +kernel
theorem dX6_soon_66 : decode cX6_soon 66 = .ok (.aload_n 0, 1) := by decide +kernel
theorem dX6_soon_67 : decode cX6_soon 67 = .ok (.iconst 2, 1) := by decide +kernel
theorem dX6_soon_68 : decode cX6_soon 68 = .ok (.invokevirtual 161, 3) := by decide +kernel
theorem dX6_soon_71 : decode cX6_soon 71 = .ok (.iload_n 3, 1) := by decide +kernel
theorem dX6_soon_72 : decode cX6_soon 72 = .ok (.ifCond .eq 7, 3) := by decide +kernel
theorem dX6_soon_75 : decode cX6_soon 75 = .ok (.iload_n 2, 1) := by decide +kernel
theorem dX6_soon_76 : decode cX6_soon 76 = .ok (.goto 5, 3) := by decide +kernel
theorem dX6_soon_79 : decode cX6_soon 79 = .ok (.bipush (-6), 2) := by decide +kernel
theorem dX6_soon_81 : decode cX6_soon 81 = .ok (.ireturn, 1) := by decide +kernel
theorem dX6_bearsOne_0 : decode cX6_bearsOne 0 = .ok (.aload_n 0, 1) := by decide +kernel
theorem dX6_bearsOne_1 : decode cX6_bearsOne 1 = .ok (.iconst 4, 1) := by decide +kernel
theorem dX6_bearsOne_2 : decode cX6_bearsOne 2 = .ok (.invokevirtual 142, 3) := by decide +kernel
theorem dX6_bearsOne_5 : decode cX6_bearsOne 5 = .ok (.iconst 1, 1) := by decide +kernel
theorem dX6_bearsOne_6 : decode cX6_bearsOne 6 = .ok (.iload_n 1, 1) := by decide +kernel
theorem dX6_bearsOne_7 : decode cX6_bearsOne 7 = .ok (.ishl, 1) := by decide +kernel
theorem dX6_bearsOne_8 : decode cX6_bearsOne 8 = .ok (.iconst (-1), 1) := by decide +kernel
theorem dX6_bearsOne_9 : decode cX6_bearsOne 9 = .ok (.ixor, 1) := by decide +kernel
theorem dX6_bearsOne_10 : decode cX6_bearsOne 10 = .ok (.iand, 1) := by decide +kernel
theorem dX6_bearsOne_11 : decode cX6_bearsOne 11 = .ok (.istore 5, 2) := by decide +kernel
theorem dX6_bearsOne_13 : decode cX6_bearsOne 13 = .ok (.aload_n 0, 1) := by decide +kernel
theorem dX6_bearsOne_14 : decode cX6_bearsOne 14 = .ok (.iconst 2, 1) := by decide +kernel
theorem dX6_bearsOne_15 : decode cX6_bearsOne 15 = .ok (.invokevirtual 158, 3) := by decide +kernel
theorem dX6_bearsOne_18 : decode cX6_bearsOne 18 = .ok (.aload_n 0, 1) := by decide +kernel
theorem dX6_bearsOne_19 : decode cX6_bearsOne 19 = .ok (.getfield 7, 3) := by decide +kernel
theorem dX6_bearsOne_22 : decode cX6_bearsOne 22 = .ok (.bipush 24, 2) := by decide +kernel
theorem dX6_bearsOne_24 : decode cX6_bearsOne 24 = .ok (.iload_n 1, 1) := by decide +kernel
theorem dX6_bearsOne_25 : decode cX6_bearsOne 25 = .ok (.iadd, 1) := by decide +kernel
theorem dX6_bearsOne_26 : decode cX6_bearsOne 26 = .ok (.iload_n 2, 1) := by decide +kernel
theorem dX6_bearsOne_27 : decode cX6_bearsOne 27 = .ok (.iastore, 1) := by decide +kernel
theorem dX6_bearsOne_28 : decode cX6_bearsOne 28 = .ok (.iconst 1, 1) := by decide +kernel
theorem dX6_bearsOne_29 : decode cX6_bearsOne 29 = .ok (.istore 6, 2) := by decide +kernel
theorem dX6_bearsOne_31 : decode cX6_bearsOne 31 = .ok (.iconst 0, 1) := by decide +kernel
theorem dX6_bearsOne_32 : decode cX6_bearsOne 32 = .ok (.istore 7, 2) := by decide +kernel
theorem dX6_bearsOne_34 : decode cX6_bearsOne 34 = .ok (.iload 7, 2) := by decide +kernel
theorem dX6_bearsOne_36 : decode cX6_bearsOne 36 = .ok (.iload_n 3, 1) := by decide +kernel
theorem dX6_bearsOne_37 : decode cX6_bearsOne 37 = .ok (.if_icmp .ge 48, 3) := by decide +kernel
theorem dX6_bearsOne_40 : decode cX6_bearsOne 40 = .ok (.iload 6, 2) := by decide +kernel
theorem dX6_bearsOne_42 : decode cX6_bearsOne 42 = .ok (.ifCond .eq 43, 3) := by decide +kernel
theorem dX6_bearsOne_45 : decode cX6_bearsOne 45 = .ok (.aload_n 0, 1) := by decide +kernel
theorem dX6_bearsOne_46 : decode cX6_bearsOne 46 = .ok (.invokevirtual 139, 3) := by decide +kernel
theorem dX6_bearsOne_49 : decode cX6_bearsOne 49 = .ok (.aload_n 0, 1) := by decide +kernel
theorem dX6_bearsOne_50 : decode cX6_bearsOne 50 = .ok (.iload_n 1, 1) := by decide +kernel
theorem dX6_bearsOne_51 : decode cX6_bearsOne 51 = .ok (.invokevirtual 152, 3) := by decide +kernel
theorem dX6_bearsOne_54 : decode cX6_bearsOne 54 = .ok (.iload 4, 2) := by decide +kernel
theorem dX6_bearsOne_56 : decode cX6_bearsOne 56 = .ok (.if_icmp .gt 20, 3) := by decide +kernel
theorem dX6_bearsOne_59 : decode cX6_bearsOne 59 = .ok (.iload 5, 2) := by decide +kernel
theorem dX6_bearsOne_61 : decode cX6_bearsOne 61 = .ok (.aload_n 0, 1) := by decide +kernel
theorem dX6_bearsOne_62 : decode cX6_bearsOne 62 = .ok (.iconst 4, 1) := by decide +kernel
theorem dX6_bearsOne_63 : decode cX6_bearsOne 63 = .ok (.invokevirtual 142, 3) := by decide +kernel
theorem dX6_bearsOne_66 : decode cX6_bearsOne 66 = .ok (.iconst (-1), 1) := by decide +kernel
theorem dX6_bearsOne_67 : decode cX6_bearsOne 67 = .ok (.ixor, 1) := by decide +kernel
theorem dX6_bearsOne_68 : decode cX6_bearsOne 68 = .ok (.iand, 1) := by decide +kernel
theorem dX6_bearsOne_69 : decode cX6_bearsOne 69 = .ok (.ifCond .ne 7, 3) := by decide +kernel
theorem dX6_bearsOne_72 : decode cX6_bearsOne 72 = .ok (.iconst 1, 1) := by decide +kernel
theorem dX6_bearsOne_73 : decode cX6_bearsOne 73 = .ok (.goto 4, 3) := by decide +kernel
theorem dX6_bearsOne_76 : decode cX6_bearsOne 76 = .ok (.iconst 0, 1) := by decide +kernel
theorem dX6_bearsOne_77 : decode cX6_bearsOne 77 = .ok (.istore 6, 2) := by decide +kernel
theorem dX6_bearsOne_79 : decode cX6_bearsOne 79 = .ok (.iinc 7 1, 3) := by decide +kernel
theorem dX6_bearsOne_82 : decode cX6_bearsOne 82 = .ok (.goto (-48), 3) := by decide +kernel
theorem dX6_bearsOne_85 : decode cX6_bearsOne 85 = .ok (.aload_n 0, 1) := by decide +kernel
theorem dX6_bearsOne_86 : decode cX6_bearsOne 86 = .ok (.iconst 2, 1) := by decide +kernel
theorem dX6_bearsOne_87 : decode cX6_bearsOne 87 = .ok (.invokevirtual 161, 3) := by decide +kernel
theorem dX6_bearsOne_90 : decode cX6_bearsOne 90 = .ok (.iload 6, 2) := by decide +kernel
theorem dX6_bearsOne_92 : decode cX6_bearsOne 92 = .ok (.ireturn, 1) := by decide +kernel
theorem dX6_bears_0 : decode cX6_bears 0 = .ok (.iload_n 1, 1) := by decide +kernel
theorem dX6_bears_1 : decode cX6_bears 1 = .ok (.invokestatic 58, 3) := by decide +kernel
theorem dX6_bears_4 : decode cX6_bears 4 = .ok (.ifCond .ne 5, 3) := by decide +kernel
theorem dX6_bears_7 : decode cX6_bears 7 = .ok (.iconst (-1), 1) := by decide +kernel
theorem dX6_bears_8 : decode cX6_bears 8 = .ok (.ireturn, 1) := by decide +kernel
theorem dX6_bears_9 : decode cX6_bears 9 = .ok (.iload_n 2, 1) := by decide +kernel
theorem dX6_bears_10 : decode cX6_bears 10 = .ok (.iconst 1, 1) := by decide +kernel
theorem dX6_bears_11 : decode cX6_bears 11 = .ok (.bipush 40, 2) := by decide +kernel
theorem dX6_bears_13 : decode cX6_bears 13 = .ok (.invokestatic 50, 3) := by decide +kernel
theorem dX6_bears_16 : decode cX6_bears 16 = .ok (.ifCond .eq 14, 3) := by decide +kernel
theorem dX6_bears_19 : decode cX6_bears 19 = .ok (.iload_n 3, 1) := by decide +kernel
theorem dX6_bears_20 : decode cX6_bears 20 = .ok (.iconst 0, 1) := by decide +kernel
theorem dX6_bears_21 : decode cX6_bears 21 = .ok (.sipush 999, 3) := by decide +kernel
theorem dX6_bears_24 : decode cX6_bears 24 = .ok (.invokestatic 50, 3) := by decide +kernel
theorem dX6_bears_27 : decode cX6_bears 27 = .ok (.ifCond .ne 6, 3) := by decide +kernel
theorem dX6_bears_30 : decode cX6_bears 30 = .ok (.bipush (-2), 2) := by decide +kernel
theorem dX6_bears_32 : decode cX6_bears 32 = .ok (.ireturn, 1) := by decide +kernel
theorem dX6_bears_33 : decode cX6_bears 33 = .ok (.sipush 400, 3) := by decide +kernel
theorem dX6_bears_36 : decode cX6_bears 36 = .ok (.istore 4, 2) := by decide +kernel
theorem dX6_bears_38 : decode cX6_bears 38 = .ok (.iload 4, 2) := by decide +kernel
theorem dX6_bears_40 : decode cX6_bears 40 = .ok (.ifCond .lt 24, 3) := by decide +kernel
theorem dX6_bears_43 : decode cX6_bears 43 = .ok (.aload_n 0, 1) := by decide +kernel
theorem dX6_bears_44 : decode cX6_bears 44 = .ok (.iload_n 1, 1) := by decide +kernel
theorem dX6_bears_45 : decode cX6_bears 45 = .ok (.iload 4, 2) := by decide +kernel
theorem dX6_bears_47 : decode cX6_bears 47 = .ok (.iload_n 2, 1) := by decide +kernel
theorem dX6_bears_48 : decode cX6_bears 48 = .ok (.iload_n 3, 1) := by decide +kernel
theorem dX6_bears_49 : decode cX6_bears 49 = .ok (.invokevirtual 164, 3) := by decide +kernel
theorem dX6_bears_52 : decode cX6_bears 52 = .ok (.ifCond .eq 6, 3) := by decide +kernel
theorem dX6_bears_55 : decode cX6_bears 55 = .ok (.iload 4, 2) := by decide +kernel
theorem dX6_bears_57 : decode cX6_bears 57 = .ok (.ireturn, 1) := by decide +kernel
theorem dX6_bears_58 : decode cX6_bears 58 = .ok (.iinc 4 (-10), 3) := by decide +kernel
theorem dX6_bears_61 : decode cX6_bears 61 = .ok (.goto (-23), 3) := by decide +kernel
theorem dX6_bears_64 : decode cX6_bears 64 = .ok (.bipush (-6), 2) := by decide +kernel
theorem dX6_bears_66 : decode cX6_bears 66 = .ok (.ireturn, 1) := by decide +kernel
theorem dX6_image_0 : decode cX6_image 0 = .ok (.iload_n 1, 1) := by decide +kernel
theorem dX6_image_1 : decode cX6_image 1 = .ok (.iconst 0, 1) := by decide +kernel
theorem dX6_image_2 : decode cX6_image 2 = .ok (.iconst 1, 1) := by decide +kernel
theorem dX6_image_3 : decode cX6_image 3 = .ok (.invokestatic 50, 3) := by decide +kernel
theorem dX6_image_6 : decode cX6_image 6 = .ok (.ifCond .ne 6, 3) := by decide +kernel
theorem dX6_image_9 : decode cX6_image 9 = .ok (.bipush (-2), 2) := by decide +kernel
theorem dX6_image_11 : decode cX6_image 11 = .ok (.ireturn, 1) := by decide +kernel
theorem dX6_image_12 : decode cX6_image 12 = .ok (.aload_n 0, 1) := by decide +kernel
theorem dX6_image_13 : decode cX6_image 13 = .ok (.iload_n 1, 1) := by decide +kernel
theorem dX6_image_14 : decode cX6_image 14 = .ok (.invokevirtual 158, 3) := by decide +kernel
theorem dX6_image_17 : decode cX6_image 17 = .ok (.aload_n 0, 1) := by decide +kernel
theorem dX6_image_18 : decode cX6_image 18 = .ok (.getfield 16, 3) := by decide +kernel
theorem dX6_image_21 : decode cX6_image 21 = .ok (.iload_n 1, 1) := by decide +kernel
theorem dX6_image_22 : decode cX6_image 22 = .ok (.iconst 1, 1) := by decide +kernel
theorem dX6_image_23 : decode cX6_image 23 = .ok (.bastore, 1) := by decide +kernel
theorem dX6_image_24 : decode cX6_image 24 = .ok (.iconst 1, 1) := by decide +kernel
theorem dX6_image_25 : decode cX6_image 25 = .ok (.ireturn, 1) := by decide +kernel
theorem dX6_restore_0 : decode cX6_restore 0 = .ok (.iload_n 1, 1) := by decide +kernel
theorem dX6_restore_1 : decode cX6_restore 1 = .ok (.iconst 0, 1) := by decide +kernel
theorem dX6_restore_2 : decode cX6_restore 2 = .ok (.iconst 1, 1) := by decide +kernel
theorem dX6_restore_3 : decode cX6_restore 3 = .ok (.invokestatic 50, 3) := by decide +kernel
theorem dX6_restore_6 : decode cX6_restore 6 = .ok (.ifCond .ne 6, 3) := by decide +kernel
theorem dX6_restore_9 : decode cX6_restore 9 = .ok (.bipush (-2), 2) := by decide +kernel
theorem dX6_restore_11 : decode cX6_restore 11 = .ok (.ireturn, 1) := by decide +kernel
theorem dX6_restore_12 : decode cX6_restore 12 = .ok (.aload_n 0, 1) := by decide +kernel
theorem dX6_restore_13 : decode cX6_restore 13 = .ok (.getfield 16, 3) := by decide +kernel
theorem dX6_restore_16 : decode cX6_restore 16 = .ok (.iload_n 1, 1) := by decide +kernel
theorem dX6_restore_17 : decode cX6_restore 17 = .ok (.baload, 1) := by decide +kernel
theorem dX6_restore_18 : decode cX6_restore 18 = .ok (.ifCond .ne 6, 3) := by decide +kernel
theorem dX6_restore_21 : decode cX6_restore 21 = .ok (.bipush (-3), 2) := by decide +kernel
theorem dX6_restore_23 : decode cX6_restore 23 = .ok (.ireturn, 1) := by decide +kernel
theorem dX6_restore_24 : decode cX6_restore 24 = .ok (.aload_n 0, 1) := by decide +kernel
theorem dX6_restore_25 : decode cX6_restore 25 = .ok (.iload_n 1, 1) := by decide +kernel
theorem dX6_restore_26 : decode cX6_restore 26 = .ok (.invokevirtual 161, 3) := by decide +kernel
theorem dX6_restore_29 : decode cX6_restore 29 = .ok (.iconst 1, 1) := by decide +kernel
theorem dX6_restore_30 : decode cX6_restore 30 = .ok (.ireturn, 1) := by decide +kernel
theorem dX6_count_0 : decode cX6_count 0 = .ok (.iload_n 1, 1) := by decide +kernel
theorem dX6_count_1 : decode cX6_count 1 = .ok (.tableswitch 109 0 5 #[39, 48, 57, 63, 70, 79], 39) := by decide +kernel
theorem dX6_count_40 : decode cX6_count 40 = .ok (.aload_n 0, 1) := by decide +kernel
theorem dX6_count_41 : decode cX6_count 41 = .ok (.getfield 7, 3) := by decide +kernel
theorem dX6_count_44 : decode cX6_count 44 = .ok (.sipush 133, 3) := by decide +kernel
theorem dX6_count_47 : decode cX6_count 47 = .ok (.iaload, 1) := by decide +kernel
theorem dX6_count_48 : decode cX6_count 48 = .ok (.ireturn, 1) := by decide +kernel
theorem dX6_count_49 : decode cX6_count 49 = .ok (.aload_n 0, 1) := by decide +kernel
theorem dX6_count_50 : decode cX6_count 50 = .ok (.getfield 7, 3) := by decide +kernel
theorem dX6_count_53 : decode cX6_count 53 = .ok (.sipush 134, 3) := by decide +kernel
theorem dX6_count_56 : decode cX6_count 56 = .ok (.iaload, 1) := by decide +kernel
theorem dX6_count_57 : decode cX6_count 57 = .ok (.ireturn, 1) := by decide +kernel
theorem dX6_count_58 : decode cX6_count 58 = .ok (.aload_n 0, 1) := by decide +kernel
theorem dX6_count_59 : decode cX6_count 59 = .ok (.iconst 4, 1) := by decide +kernel
theorem dX6_count_60 : decode cX6_count 60 = .ok (.invokevirtual 142, 3) := by decide +kernel
theorem dX6_count_63 : decode cX6_count 63 = .ok (.ireturn, 1) := by decide +kernel
theorem dX6_count_64 : decode cX6_count 64 = .ok (.aload_n 0, 1) := by decide +kernel
theorem dX6_count_65 : decode cX6_count 65 = .ok (.bipush 6, 2) := by decide +kernel
theorem dX6_count_67 : decode cX6_count 67 = .ok (.invokevirtual 142, 3) := by decide +kernel
theorem dX6_count_70 : decode cX6_count 70 = .ok (.ireturn, 1) := by decide +kernel
theorem dX6_count_71 : decode cX6_count 71 = .ok (.aload_n 0, 1) := by decide +kernel
theorem dX6_count_72 : decode cX6_count 72 = .ok (.getfield 7, 3) := by decide +kernel
theorem dX6_count_75 : decode cX6_count 75 = .ok (.sipush 132, 3) := by decide +kernel
theorem dX6_count_78 : decode cX6_count 78 = .ok (.iaload, 1) := by decide +kernel
theorem dX6_count_79 : decode cX6_count 79 = .ok (.ireturn, 1) := by decide +kernel
theorem dX6_count_80 : decode cX6_count 80 = .ok (.aload_n 0, 1) := by decide +kernel
theorem dX6_count_81 : decode cX6_count 81 = .ok (.getfield 16, 3) := by decide +kernel
theorem dX6_count_84 : decode cX6_count 84 = .ok (.iconst 0, 1) := by decide +kernel
theorem dX6_count_85 : decode cX6_count 85 = .ok (.baload, 1) := by decide +kernel
theorem dX6_count_86 : decode cX6_count 86 = .ok (.ifCond .eq 7, 3) := by decide +kernel
theorem dX6_count_89 : decode cX6_count 89 = .ok (.iconst 1, 1) := by decide +kernel
theorem dX6_count_90 : decode cX6_count 90 = .ok (.goto 4, 3) := by decide +kernel
theorem dX6_count_93 : decode cX6_count 93 = .ok (.iconst 0, 1) := by decide +kernel
theorem dX6_count_94 : decode cX6_count 94 = .ok (.aload_n 0, 1) := by decide +kernel
theorem dX6_count_95 : decode cX6_count 95 = .ok (.getfield 16, 3) := by decide +kernel
theorem dX6_count_98 : decode cX6_count 98 = .ok (.iconst 1, 1) := by decide +kernel
theorem dX6_count_99 : decode cX6_count 99 = .ok (.baload, 1) := by decide +kernel
theorem dX6_count_100 : decode cX6_count 100 = .ok (.ifCond .eq 7, 3) := by decide +kernel
theorem dX6_count_103 : decode cX6_count 103 = .ok (.iconst 2, 1) := by decide +kernel
theorem dX6_count_104 : decode cX6_count 104 = .ok (.goto 4, 3) := by decide +kernel
theorem dX6_count_107 : decode cX6_count 107 = .ok (.iconst 0, 1) := by decide +kernel
theorem dX6_count_108 : decode cX6_count 108 = .ok (.iadd, 1) := by decide +kernel
theorem dX6_count_109 : decode cX6_count 109 = .ok (.ireturn, 1) := by decide +kernel
theorem dX6_count_110 : decode cX6_count 110 = .ok (.bipush (-2), 2) := by decide +kernel
theorem dX6_count_112 : decode cX6_count 112 = .ok (.ireturn, 1) := by decide +kernel
