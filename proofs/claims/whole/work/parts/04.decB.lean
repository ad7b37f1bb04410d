theorem dX5_init_0 : decode cX5_init 0 = .ok (.aload_n 0, 1) := by decide +kernel
theorem dX5_init_1 : decode cX5_init 1 = .ok (.invokespecial 1, 3) := by decide +kernel
theorem dX5_init_4 : decode cX5_init 4 = .ok (.aload_n 0, 1) := by decide +kernel
theorem dX5_init_5 : decode cX5_init 5 = .ok (.new 7, 3) := by decide +kernel
theorem dX5_init_8 : decode cX5_init 8 = .ok (.dup, 1) := by decide +kernel
theorem dX5_init_9 : decode cX5_init 9 = .ok (.invokespecial 9, 3) := by decide +kernel
theorem dX5_init_12 : decode cX5_init 12 = .ok (.putfield 10, 3) := by decide +kernel
theorem dX5_init_15 : decode cX5_init 15 = .ok (.aload_n 0, 1) := by decide +kernel
theorem dX5_init_16 : decode cX5_init 16 = .ok (.new 7, 3) := by decide +kernel
theorem dX5_init_19 : decode cX5_init 19 = .ok (.dup, 1) := by decide +kernel
theorem dX5_init_20 : decode cX5_init 20 = .ok (.invokespecial 9, 3) := by decide +kernel
theorem dX5_init_23 : decode cX5_init 23 = .ok (.putfield 16, 3) := by decide +kernel
theorem dX5_init_26 : decode cX5_init 26 = .ok (.aload_n 0, 1) := by decide +kernel
theorem dX5_init_27 : decode cX5_init 27 = .ok (.iconst 2, 1) := by decide +kernel
theorem dX5_init_28 : decode cX5_init 28 = .ok (.anewarray 7, 3) := by decide +kernel
theorem dX5_init_31 : decode cX5_init 31 = .ok (.putfield 19, 3) := by decide +kernel
theorem dX5_init_34 : decode cX5_init 34 = .ok (.iconst 0, 1) := by decide +kernel
theorem dX5_init_35 : decode cX5_init 35 = .ok (.istore_n 1, 1) := by decide +kernel
theorem dX5_init_36 : decode cX5_init 36 = .ok (.iload_n 1, 1) := by decide +kernel
theorem dX5_init_37 : decode cX5_init 37 = .ok (.aload_n 0, 1) := by decide +kernel
theorem dX5_init_38 : decode cX5_init 38 = .ok (.getfield 19, 3) := by decide +kernel
theorem dX5_init_41 : decode cX5_init 41 = .ok (.arraylength, 1) := by decide +kernel
theorem dX5_init_42 : decode cX5_init 42 = .ok (.if_icmp .ge 22, 3) := by decide +kernel
theorem dX5_init_45 : decode cX5_init 45 = .ok (.aload_n 0, 1) := by decide +kernel
theorem dX5_init_46 : decode cX5_init 46 = .ok (.getfield 19, 3) := by decide +kernel
theorem dX5_init_49 : decode cX5_init 49 = .ok (.iload_n 1, 1) := by decide +kernel
theorem dX5_init_50 : decode cX5_init 50 = .ok (.new 7, 3) := by decide +kernel
theorem dX5_init_53 : decode cX5_init 53 = .ok (.dup, 1) := by decide +kernel
theorem dX5_init_54 : decode cX5_init 54 = .ok (.invokespecial 9, 3) := by decide +kernel
theorem dX5_init_57 : decode cX5_init 57 = .ok (.aastore, 1) := by decide +kernel
theorem dX5_init_58 : decode cX5_init 58 = .ok (.iinc 1 1, 3) := by decide +kernel
theorem dX5_init_61 : decode cX5_init 61 = .ok (.goto (-25), 3) := by decide +kernel
theorem dX5_init_64 : decode cX5_init 64 = .ok (.aload_n 0, 1) := by decide +kernel
theorem dX5_init_65 : decode cX5_init 65 = .ok (.iconst 0, 1) := by decide +kernel
theorem dX5_init_66 : decode cX5_init 66 = .ok (.putfield 23, 3) := by decide +kernel
theorem dX5_init_69 : decode cX5_init 69 = .ok (.aload_n 0, 1) := by decide +kernel
theorem dX5_init_70 : decode cX5_init 70 = .ok (.new 27, 3) := by decide +kernel
theorem dX5_init_73 : decode cX5_init 73 = .ok (.dup, 1) := by decide +kernel
theorem dX5_init_74 : decode cX5_init 74 = .ok (.invokespecial 29, 3) := by decide +kernel
theorem dX5_init_77 : decode cX5_init 77 = .ok (.putfield 30, 3) := by decide +kernel
theorem dX5_init_80 : decode cX5_init 80 = .ok (.return_, 1) := by decide +kernel
theorem dX5_node_0 : decode cX5_node 0 = .ok (.iload_n 1, 1) := by decide +kernel
theorem dX5_node_1 : decode cX5_node 1 = .ok (.invokestatic 34, 3) := by decide +kernel
theorem dX5_node_4 : decode cX5_node 4 = .ok (.ifCond .ne 5, 3) := by decide +kernel
theorem dX5_node_7 : decode cX5_node 7 = .ok (.iconst (-1), 1) := by decide +kernel
theorem dX5_node_8 : decode cX5_node 8 = .ok (.ireturn, 1) := by decide +kernel
theorem dX5_node_9 : decode cX5_node 9 = .ok (.iload_n 2, 1) := by decide +kernel
theorem dX5_node_10 : decode cX5_node 10 = .ok (.iconst 1, 1) := by decide +kernel
theorem dX5_node_11 : decode cX5_node 11 = .ok (.if_icmp .eq 8, 3) := by decide +kernel
theorem dX5_node_14 : decode cX5_node 14 = .ok (.iload_n 2, 1) := by decide +kernel
theorem dX5_node_15 : decode cX5_node 15 = .ok (.iconst 2, 1) := by decide +kernel
theorem dX5_node_16 : decode cX5_node 16 = .ok (.if_icmp .ne 7, 3) := by decide +kernel
theorem dX5_node_19 : decode cX5_node 19 = .ok (.iconst 1, 1) := by decide +kernel
theorem dX5_node_20 : decode cX5_node 20 = .ok (.goto 4, 3) := by decide +kernel
theorem dX5_node_23 : decode cX5_node 23 = .ok (.iconst 0, 1) := by decide +kernel
theorem dX5_node_24 : decode cX5_node 24 = .ok (.istore 5, 2) := by decide +kernel
theorem dX5_node_26 : decode cX5_node 26 = .ok (.iload 5, 2) := by decide +kernel
theorem dX5_node_28 : decode cX5_node 28 = .ok (.ifCond .eq 24, 3) := by decide +kernel
theorem dX5_node_31 : decode cX5_node 31 = .ok (.iload_n 3, 1) := by decide +kernel
theorem dX5_node_32 : decode cX5_node 32 = .ok (.iconst 1, 1) := by decide +kernel
theorem dX5_node_33 : decode cX5_node 33 = .ok (.bipush 9, 2) := by decide +kernel
theorem dX5_node_35 : decode cX5_node 35 = .ok (.invokestatic 38, 3) := by decide +kernel
theorem dX5_node_38 : decode cX5_node 38 = .ok (.ifCond .eq 14, 3) := by decide +kernel
theorem dX5_node_41 : decode cX5_node 41 = .ok (.iload 4, 2) := by decide +kernel
theorem dX5_node_43 : decode cX5_node 43 = .ok (.iconst 1, 1) := by decide +kernel
theorem dX5_node_44 : decode cX5_node 44 = .ok (.bipush 9, 2) := by decide +kernel
theorem dX5_node_46 : decode cX5_node 46 = .ok (.invokestatic 38, 3) := by decide +kernel
theorem dX5_node_49 : decode cX5_node 49 = .ok (.ifCond .ne 6, 3) := by decide +kernel
theorem dX5_node_52 : decode cX5_node 52 = .ok (.bipush (-2), 2) := by decide +kernel
theorem dX5_node_54 : decode cX5_node 54 = .ok (.ireturn, 1) := by decide +kernel
theorem dX5_node_55 : decode cX5_node 55 = .ok (.aload_n 0, 1) := by decide +kernel
theorem dX5_node_56 : decode cX5_node 56 = .ok (.getfield 10, 3) := by decide +kernel
theorem dX5_node_59 : decode cX5_node 59 = .ok (.getfield 42, 3) := by decide +kernel
theorem dX5_node_62 : decode cX5_node 62 = .ok (.iload_n 1, 1) := by decide +kernel
theorem dX5_node_63 : decode cX5_node 63 = .ok (.aaload, 1) := by decide +kernel
theorem dX5_node_64 : decode cX5_node 64 = .ok (.astore 6, 2) := by decide +kernel
theorem dX5_node_66 : decode cX5_node 66 = .ok (.aload 6, 2) := by decide +kernel
theorem dX5_node_68 : decode cX5_node 68 = .ok (.getfield 46, 3) := by decide +kernel
theorem dX5_node_71 : decode cX5_node 71 = .ok (.ifCond .ne 15, 3) := by decide +kernel
theorem dX5_node_74 : decode cX5_node 74 = .ok (.aload_n 0, 1) := by decide +kernel
theorem dX5_node_75 : decode cX5_node 75 = .ok (.getfield 10, 3) := by decide +kernel
theorem dX5_node_78 : decode cX5_node 78 = .ok (.iload_n 3, 1) := by decide +kernel
theorem dX5_node_79 : decode cX5_node 79 = .ok (.iload_n 1, 1) := by decide +kernel
theorem dX5_node_80 : decode cX5_node 80 = .ok (.invokevirtual 51, 3) := by decide +kernel
theorem dX5_node_83 : decode cX5_node 83 = .ok (.ifCond .eq 6, 3) := by decide +kernel
theorem dX5_node_86 : decode cX5_node 86 = .ok (.bipush (-3), 2) := by decide +kernel
theorem dX5_node_88 : decode cX5_node 88 = .ok (.ireturn, 1) := by decide +kernel
theorem dX5_node_89 : decode cX5_node 89 = .ok (.aload 6, 2) := by decide +kernel
theorem dX5_node_91 : decode cX5_node 91 = .ok (.getfield 55, 3) := by decide +kernel
theorem dX5_node_94 : decode cX5_node 94 = .ok (.istore 7, 2) := by decide +kernel
theorem dX5_node_96 : decode cX5_node 96 = .ok (.aload 6, 2) := by decide +kernel
theorem dX5_node_98 : decode cX5_node 98 = .ok (.iload_n 2, 1) := by decide +kernel
theorem dX5_node_99 : decode cX5_node 99 = .ok (.putfield 58, 3) := by decide +kernel
theorem dX5_node_102 : decode cX5_node 102 = .ok (.aload 6, 2) := by decide +kernel
theorem dX5_node_104 : decode cX5_node 104 = .ok (.iload_n 3, 1) := by decide +kernel
theorem dX5_node_105 : decode cX5_node 105 = .ok (.putfield 55, 3) := by decide +kernel
theorem dX5_node_108 : decode cX5_node 108 = .ok (.aload 6, 2) := by decide +kernel
theorem dX5_node_110 : decode cX5_node 110 = .ok (.iload 4, 2) := by decide +kernel
theorem dX5_node_112 : decode cX5_node 112 = .ok (.putfield 61, 3) := by decide +kernel
theorem dX5_node_115 : decode cX5_node 115 = .ok (.iload 7, 2) := by decide +kernel
theorem dX5_node_117 : decode cX5_node 117 = .ok (.ireturn, 1) := by decide +kernel
theorem dX5_clock_0 : decode cX5_clock 0 = .ok (.iload_n 1, 1) := by decide +kernel
theorem dX5_clock_1 : decode cX5_clock 1 = .ok (.invokestatic 34, 3) := by decide +kernel
theorem dX5_clock_4 : decode cX5_clock 4 = .ok (.ifCond .ne 5, 3) := by decide +kernel
theorem dX5_clock_7 : decode cX5_clock 7 = .ok (.iconst (-1), 1) := by decide +kernel
theorem dX5_clock_8 : decode cX5_clock 8 = .ok (.ireturn, 1) := by decide +kernel
theorem dX5_clock_9 : decode cX5_clock 9 = .ok (.aload_n 0, 1) := by decide +kernel
theorem dX5_clock_10 : decode cX5_clock 10 = .ok (.getfield 10, 3) := by decide +kernel
theorem dX5_clock_13 : decode cX5_clock 13 = .ok (.getfield 42, 3) := by decide +kernel
theorem dX5_clock_16 : decode cX5_clock 16 = .ok (.iload_n 1, 1) := by decide +kernel
theorem dX5_clock_17 : decode cX5_clock 17 = .ok (.aaload, 1) := by decide +kernel
theorem dX5_clock_18 : decode cX5_clock 18 = .ok (.astore 4, 2) := by decide +kernel
theorem dX5_clock_20 : decode cX5_clock 20 = .ok (.iload_n 2, 1) := by decide +kernel
theorem dX5_clock_21 : decode cX5_clock 21 = .ok (.ifCond .ne 34, 3) := by decide +kernel
theorem dX5_clock_24 : decode cX5_clock 24 = .ok (.iload_n 3, 1) := by decide +kernel
theorem dX5_clock_25 : decode cX5_clock 25 = .ok (.bipush (-50), 2) := by decide +kernel
theorem dX5_clock_27 : decode cX5_clock 27 = .ok (.bipush 50, 2) := by decide +kernel
theorem dX5_clock_29 : decode cX5_clock 29 = .ok (.invokestatic 38, 3) := by decide +kernel
theorem dX5_clock_32 : decode cX5_clock 32 = .ok (.ifCond .eq 23, 3) := by decide +kernel
theorem dX5_clock_35 : decode cX5_clock 35 = .ok (.aload 4, 2) := by decide +kernel
theorem dX5_clock_37 : decode cX5_clock 37 = .ok (.getfield 64, 3) := by decide +kernel
theorem dX5_clock_40 : decode cX5_clock 40 = .ok (.istore 5, 2) := by decide +kernel
theorem dX5_clock_42 : decode cX5_clock 42 = .ok (.aload 4, 2) := by decide +kernel
theorem dX5_clock_44 : decode cX5_clock 44 = .ok (.iload_n 3, 1) := by decide +kernel
theorem dX5_clock_45 : decode cX5_clock 45 = .ok (.putfield 64, 3) := by decide +kernel
theorem dX5_clock_48 : decode cX5_clock 48 = .ok (.iload 5, 2) := by decide +kernel
theorem dX5_clock_50 : decode cX5_clock 50 = .ok (.sipush 1000, 3) := by decide +kernel
theorem dX5_clock_53 : decode cX5_clock 53 = .ok (.iadd, 1) := by decide +kernel
theorem dX5_clock_54 : decode cX5_clock 54 = .ok (.ireturn, 1) := by decide +kernel
theorem dX5_clock_55 : decode cX5_clock 55 = .ok (.iload_n 2, 1) := by decide +kernel
theorem dX5_clock_56 : decode cX5_clock 56 = .ok (.iconst 1, 1) := by decide +kernel
theorem dX5_clock_57 : decode cX5_clock 57 = .ok (.if_icmp .ne 36, 3) := by decide +kernel
theorem dX5_clock_60 : decode cX5_clock 60 = .ok (.iload_n 3, 1) := by decide +kernel
theorem dX5_clock_61 : decode cX5_clock 61 = .ok (.sipush (-400), 3) := by decide +kernel
theorem dX5_clock_64 : decode cX5_clock 64 = .ok (.sipush 400, 3) := by decide +kernel
theorem dX5_clock_67 : decode cX5_clock 67 = .ok (.invokestatic 38, 3) := by decide +kernel
theorem dX5_clock_70 : decode cX5_clock 70 = .ok (.ifCond .eq 23, 3) := by decide +kernel
theorem dX5_clock_73 : decode cX5_clock 73 = .ok (.aload 4, 2) := by decide +kernel
theorem dX5_clock_75 : decode cX5_clock 75 = .ok (.getfield 67, 3) := by decide +kernel
theorem dX5_clock_78 : decode cX5_clock 78 = .ok (.istore 5, 2) := by decide +kernel
theorem dX5_clock_80 : decode cX5_clock 80 = .ok (.aload 4, 2) := by decide +kernel
theorem dX5_clock_82 : decode cX5_clock 82 = .ok (.iload_n 3, 1) := by decide +kernel
theorem dX5_clock_83 : decode cX5_clock 83 = .ok (.putfield 67, 3) := by decide +kernel
theorem dX5_clock_86 : decode cX5_clock 86 = .ok (.iload 5, 2) := by decide +kernel
theorem dX5_clock_88 : decode cX5_clock 88 = .ok (.sipush 1000, 3) := by decide +kernel
theorem dX5_clock_91 : decode cX5_clock 91 = .ok (.iadd, 1) := by decide +kernel
theorem dX5_clock_92 : decode cX5_clock 92 = .ok (.ireturn, 1) := by decide +kernel
theorem dX5_clock_93 : decode cX5_clock 93 = .ok (.bipush (-2), 2) := by decide +kernel
theorem dX5_clock_95 : decode cX5_clock 95 = .ok (.ireturn, 1) := by decide +kernel
theorem dX5_bound_0 : decode cX5_bound 0 = .ok (.iload_n 1, 1) := by decide +kernel
theorem dX5_bound_1 : decode cX5_bound 1 = .ok (.iconst 0, 1) := by decide +kernel
theorem dX5_bound_2 : decode cX5_bound 2 = .ok (.sipush 500, 3) := by decide +kernel
theorem dX5_bound_5 : decode cX5_bound 5 = .ok (.invokestatic 38, 3) := by decide +kernel
theorem dX5_bound_8 : decode cX5_bound 8 = .ok (.ifCond .ne 6, 3) := by decide +kernel
theorem dX5_bound_11 : decode cX5_bound 11 = .ok (.bipush (-2), 2) := by decide +kernel
theorem dX5_bound_13 : decode cX5_bound 13 = .ok (.ireturn, 1) := by decide +kernel
theorem dX5_bound_14 : decode cX5_bound 14 = .ok (.aload_n 0, 1) := by decide +kernel
theorem dX5_bound_15 : decode cX5_bound 15 = .ok (.getfield 10, 3) := by decide +kernel
theorem dX5_bound_18 : decode cX5_bound 18 = .ok (.getfield 70, 3) := by decide +kernel
theorem dX5_bound_21 : decode cX5_bound 21 = .ok (.istore_n 2, 1) := by decide +kernel
theorem dX5_bound_22 : decode cX5_bound 22 = .ok (.aload_n 0, 1) := by decide +kernel
theorem dX5_bound_23 : decode cX5_bound 23 = .ok (.getfield 10, 3) := by decide +kernel
theorem dX5_bound_26 : decode cX5_bound 26 = .ok (.iload_n 1, 1) := by decide +kernel
theorem dX5_bound_27 : decode cX5_bound 27 = .ok (.putfield 70, 3) := by decide +kernel
theorem dX5_bound_30 : decode cX5_bound 30 = .ok (.iload_n 2, 1) := by decide +kernel
theorem dX5_bound_31 : decode cX5_bound 31 = .ok (.ireturn, 1) := by decide +kernel
theorem dX5_wake_0 : decode cX5_wake 0 = .ok (.iload_n 1, 1) := by decide +kernel
theorem dX5_wake_1 : decode cX5_wake 1 = .ok (.invokestatic 34, 3) := by decide +kernel
theorem dX5_wake_4 : decode cX5_wake 4 = .ok (.ifCond .ne 5, 3) := by decide +kernel
theorem dX5_wake_7 : decode cX5_wake 7 = .ok (.iconst (-1), 1) := by decide +kernel
theorem dX5_wake_8 : decode cX5_wake 8 = .ok (.ireturn, 1) := by decide +kernel
theorem dX5_wake_9 : decode cX5_wake 9 = .ok (.iload_n 2, 1) := by decide +kernel
theorem dX5_wake_10 : decode cX5_wake 10 = .ok (.sipush (-500), 3) := by decide +kernel
theorem dX5_wake_13 : decode cX5_wake 13 = .ok (.sipush 500, 3) := by decide +kernel
theorem dX5_wake_16 : decode cX5_wake 16 = .ok (.invokestatic 38, 3) := by decide +kernel
theorem dX5_wake_19 : decode cX5_wake 19 = .ok (.ifCond .ne 6, 3) := by decide +kernel
theorem dX5_wake_22 : decode cX5_wake 22 = .ok (.bipush (-2), 2) := by decide +kernel
theorem dX5_wake_24 : decode cX5_wake 24 = .ok (.ireturn, 1) := by decide +kernel
theorem dX5_wake_25 : decode cX5_wake 25 = .ok (.aload_n 0, 1) := by decide +kernel
theorem dX5_wake_26 : decode cX5_wake 26 = .ok (.getfield 10, 3) := by decide +kernel
theorem dX5_wake_29 : decode cX5_wake 29 = .ok (.getfield 42, 3) := by decide +kernel
theorem dX5_wake_32 : decode cX5_wake 32 = .ok (.iload_n 1, 1) := by decide +kernel
theorem dX5_wake_33 : decode cX5_wake 33 = .ok (.aaload, 1) := by decide +kernel
theorem dX5_wake_34 : decode cX5_wake 34 = .ok (.astore_n 3, 1) := by decide +kernel
theorem dX5_wake_35 : decode cX5_wake 35 = .ok (.aload_n 3, 1) := by decide +kernel
theorem dX5_wake_36 : decode cX5_wake 36 = .ok (.invokevirtual 73, 3) := by decide +kernel
theorem dX5_wake_39 : decode cX5_wake 39 = .ok (.ifCond .eq 6, 3) := by decide +kernel
theorem dX5_wake_42 : decode cX5_wake 42 = .ok (.bipush (-3), 2) := by decide +kernel
theorem dX5_wake_44 : decode cX5_wake 44 = .ok (.ireturn, 1) := by decide +kernel
theorem dX5_wake_45 : decode cX5_wake 45 = .ok (.aload_n 3, 1) := by decide +kernel
theorem dX5_wake_46 : decode cX5_wake 46 = .ok (.iconst 1, 1) := by decide +kernel
theorem dX5_wake_47 : decode cX5_wake 47 = .ok (.iload_n 2, 1) := by decide +kernel
theorem dX5_wake_48 : decode cX5_wake 48 = .ok (.invokevirtual 77, 3) := by decide +kernel
theorem dX5_wake_51 : decode cX5_wake 51 = .ok (.aload_n 0, 1) := by decide +kernel
theorem dX5_wake_52 : decode cX5_wake 52 = .ok (.getfield 10, 3) := by decide +kernel
theorem dX5_wake_55 : decode cX5_wake 55 = .ok (.invokevirtual 81, 3) := by decide +kernel
theorem dX5_wake_58 : decode cX5_wake 58 = .ok (.invokestatic 85, 3) := by decide +kernel
theorem dX5_wake_61 : decode cX5_wake 61 = .ok (.ireturn, 1) := by decide +kernel
theorem dX5_off_0 : decode cX5_off 0 = .ok (.iload_n 1, 1) := by decide +kernel
theorem dX5_off_1 : decode cX5_off 1 = .ok (.invokestatic 34, 3) := by decide +kernel
theorem dX5_off_4 : decode cX5_off 4 = .ok (.ifCond .ne 5, 3) := by decide +kernel
theorem dX5_off_7 : decode cX5_off 7 = .ok (.iconst (-1), 1) := by decide +kernel
theorem dX5_off_8 : decode cX5_off 8 = .ok (.ireturn, 1) := by decide +kernel
theorem dX5_off_9 : decode cX5_off 9 = .ok (.aload_n 0, 1) := by decide +kernel
theorem dX5_off_10 : decode cX5_off 10 = .ok (.getfield 10, 3) := by decide +kernel
theorem dX5_off_13 : decode cX5_off 13 = .ok (.getfield 42, 3) := by decide +kernel
theorem dX5_off_16 : decode cX5_off 16 = .ok (.iload_n 1, 1) := by decide +kernel
theorem dX5_off_17 : decode cX5_off 17 = .ok (.aaload, 1) := by decide +kernel
theorem dX5_off_18 : decode cX5_off 18 = .ok (.astore_n 2, 1) := by decide +kernel
theorem dX5_off_19 : decode cX5_off 19 = .ok (.aload_n 2, 1) := by decide +kernel
theorem dX5_off_20 : decode cX5_off 20 = .ok (.getfield 46, 3) := by decide +kernel
theorem dX5_off_23 : decode cX5_off 23 = .ok (.istore_n 3, 1) := by decide +kernel
theorem dX5_off_24 : decode cX5_off 24 = .ok (.aload_n 2, 1) := by decide +kernel
theorem dX5_off_25 : decode cX5_off 25 = .ok (.iconst 0, 1) := by decide +kernel
theorem dX5_off_26 : decode cX5_off 26 = .ok (.iconst 0, 1) := by decide +kernel
theorem dX5_off_27 : decode cX5_off 27 = .ok (.invokevirtual 77, 3) := by decide +kernel
theorem dX5_off_30 : decode cX5_off 30 = .ok (.iload_n 3, 1) := by decide +kernel
theorem dX5_off_31 : decode cX5_off 31 = .ok (.ireturn, 1) := by decide +kernel
theorem dX5_run_0 : decode cX5_run 0 = .ok (.iload_n 1, 1) := by decide +kernel
theorem dX5_run_1 : decode cX5_run 1 = .ok (.iconst 1, 1) := by decide +kernel
theorem dX5_run_2 : decode cX5_run 2 = .ok (.bipush 50, 2) := by decide +kernel
theorem dX5_run_4 : decode cX5_run 4 = .ok (.invokestatic 38, 3) := by decide +kernel
theorem dX5_run_7 : decode cX5_run 7 = .ok (.ifCond .ne 6, 3) := by decide +kernel
theorem dX5_run_10 : decode cX5_run 10 = .ok (.bipush (-2), 2) := by decide +kernel
theorem dX5_run_12 : decode cX5_run 12 = .ok (.ireturn, 1) := by decide +kernel
theorem dX5_run_13 : decode cX5_run 13 = .ok (.iconst 0, 1) := by decide +kernel
theorem dX5_run_14 : decode cX5_run 14 = .ok (.istore_n 2, 1) := by decide +kernel
theorem dX5_run_15 : decode cX5_run 15 = .ok (.iload_n 2, 1) := by decide +kernel
theorem dX5_run_16 : decode cX5_run 16 = .ok (.iload_n 1, 1) := by decide +kernel
theorem dX5_run_17 : decode cX5_run 17 = .ok (.if_icmp .ge 16, 3) := by decide +kernel
theorem dX5_run_20 : decode cX5_run 20 = .ok (.aload_n 0, 1) := by decide +kernel
theorem dX5_run_21 : decode cX5_run 21 = .ok (.getfield 10, 3) := by decide +kernel
theorem dX5_run_24 : decode cX5_run 24 = .ok (.invokevirtual 91, 3) := by decide +kernel
theorem dX5_run_27 : decode cX5_run 27 = .ok (.iinc 2 1, 3) := by decide +kernel
theorem dX5_run_30 : decode cX5_run 30 = .ok (.goto (-15), 3) := by decide +kernel
theorem dX5_run_33 : decode cX5_run 33 = .ok (.aload_n 0, 1) := by decide +kernel
theorem dX5_run_34 : decode cX5_run 34 = .ok (.getfield 10, 3) := by decide +kernel
theorem dX5_run_37 : decode cX5_run 37 = .ok (.iconst 4, 1) := by decide +kernel
theorem dX5_run_38 : decode cX5_run 38 = .ok (.invokevirtual 94, 3) := by decide +kernel
theorem dX5_run_41 : decode cX5_run 41 = .ok (.ireturn, 1) := by decide +kernel
theorem dX5_told_0 : decode cX5_told 0 = .ok (.iload_n 1, 1) := by decide +kernel
theorem dX5_told_1 : decode cX5_told 1 = .ok (.invokestatic 34, 3) := by decide +kernel
theorem dX5_told_4 : decode cX5_told 4 = .ok (.ifCond .ne 5, 3) := by decide +kernel
theorem dX5_told_7 : decode cX5_told 7 = .ok (.iconst (-1), 1) := by decide +kernel
theorem dX5_told_8 : decode cX5_told 8 = .ok (.ireturn, 1) := by decide +kernel
theorem dX5_told_9 : decode cX5_told 9 = .ok (.aload_n 0, 1) := by decide +kernel
theorem dX5_told_10 : decode cX5_told 10 = .ok (.getfield 10, 3) := by decide +kernel
theorem dX5_told_13 : decode cX5_told 13 = .ok (.getfield 42, 3) := by decide +kernel
theorem dX5_told_16 : decode cX5_told 16 = .ok (.iload_n 1, 1) := by decide +kernel
theorem dX5_told_17 : decode cX5_told 17 = .ok (.aaload, 1) := by decide +kernel
theorem dX5_told_18 : decode cX5_told 18 = .ok (.astore_n 3, 1) := by decide +kernel
theorem dX5_told_19 : decode cX5_told 19 = .ok (.iload_n 2, 1) := by decide +kernel
theorem dX5_told_20 : decode cX5_told 20 = .ok (.tableswitch 122 0 9 #[56, 61, 66, 71, 76, 81, 89, 98, 103, 111], 56) := by decide +kernel
theorem dX5_told_76 : decode cX5_told 76 = .ok (.aload_n 3, 1) := by decide +kernel
theorem dX5_told_77 : decode cX5_told 77 = .ok (.getfield 46, 3) := by decide +kernel
theorem dX5_told_80 : decode cX5_told 80 = .ok (.ireturn, 1) := by decide +kernel
theorem dX5_told_81 : decode cX5_told 81 = .ok (.aload_n 3, 1) := by decide +kernel
theorem dX5_told_82 : decode cX5_told 82 = .ok (.getfield 97, 3) := by decide +kernel
theorem dX5_told_85 : decode cX5_told 85 = .ok (.ireturn, 1) := by decide +kernel
theorem dX5_told_86 : decode cX5_told 86 = .ok (.aload_n 3, 1) := by decide +kernel
theorem dX5_told_87 : decode cX5_told 87 = .ok (.getfield 100, 3) := by decide +kernel
theorem dX5_told_90 : decode cX5_told 90 = .ok (.ireturn, 1) := by decide +kernel
theorem dX5_told_91 : decode cX5_told 91 = .ok (.aload_n 3, 1) := by decide +kernel
theorem dX5_told_92 : decode cX5_told 92 = .ok (.getfield 103, 3) := by decide +kernel
theorem dX5_told_95 : decode cX5_told 95 = .ok (.ireturn, 1) := by decide +kernel
theorem dX5_told_96 : decode cX5_told 96 = .ok (.aload_n 3, 1) := by decide +kernel
theorem dX5_told_97 : decode cX5_told 97 = .ok (.getfield 106, 3) := by decide +kernel
theorem dX5_told_100 : decode cX5_told 100 = .ok (.ireturn, 1) := by decide +kernel
theorem dX5_told_101 : decode cX5_told 101 = .ok (.aload_n 3, 1) := by decide +kernel
theorem dX5_told_102 : decode cX5_told 102 = .ok (.getfield 109, 3) := by decide +kernel
theorem dX5_told_105 : decode cX5_told 105 = .ok (.ldc 112, 2) := by decide +kernel
theorem dX5_told_107 : decode cX5_told 107 = .ok (.iadd, 1) := by decide +kernel
theorem dX5_told_108 : decode cX5_told 108 = .ok (.ireturn, 1) := by decide +kernel
theorem dX5_told_109 : decode cX5_told 109 = .ok (.aload_n 3, 1) := by decide +kernel
theorem dX5_told_110 : decode cX5_told 110 = .ok (.getfield 113, 3) := by decide +kernel
theorem dX5_told_113 : decode cX5_told 113 = .ok (.sipush 1000, 3) := by decide +kernel
theorem dX5_told_116 : decode cX5_told 116 = .ok (.iadd, 1) := by decide +kernel
theorem dX5_told_117 : decode cX5_told 117 = .ok (.ireturn, 1) := by decide +kernel
theorem dX5_told_118 : decode cX5_told 118 = .ok (.aload_n 3, 1) := by decide +kernel
theorem dX5_told_119 : decode cX5_told 119 = .ok (.getfield 116, 3) := by decide +kernel
theorem dX5_told_122 : decode cX5_told 122 = .ok (.ireturn, 1) := by decide +kernel
theorem dX5_told_123 : decode cX5_told 123 = .ok (.aload_n 3, 1) := by decide +kernel
theorem dX5_told_124 : decode cX5_told 124 = .ok (.getfield 119, 3) := by decide +kernel
theorem dX5_told_127 : decode cX5_told 127 = .ok (.getfield 123, 3) := by decide +kernel
theorem dX5_told_130 : decode cX5_told 130 = .ok (.ireturn, 1) := by decide +kernel
theorem dX5_told_131 : decode cX5_told 131 = .ok (.aload_n 3, 1) := by decide +kernel
theorem dX5_told_132 : decode cX5_told 132 = .ok (.getfield 119, 3) := by decide +kernel
theorem dX5_told_135 : decode cX5_told 135 = .ok (.getfield 128, 3) := by decide +kernel
theorem dX5_told_138 : decode cX5_told 138 = .ok (.invokestatic 85, 3) := by decide +kernel
theorem dX5_told_141 : decode cX5_told 141 = .ok (.ireturn, 1) := by decide +kernel
theorem dX5_told_142 : decode cX5_told 142 = .ok (.bipush (-2), 2) := by decide +kernel
theorem dX5_told_144 : decode cX5_told 144 = .ok (.ireturn, 1) := by decide +kernel
theorem dX5_seen_0 : decode cX5_seen 0 = .ok (.iload_n 1, 1) := by decide +kernel
theorem dX5_seen_1 : decode cX5_seen 1 = .ok (.invokestatic 34, 3) := by decide +kernel
theorem dX5_seen_4 : decode cX5_seen 4 = .ok (.ifCond .eq 10, 3) := by decide +kernel
theorem dX5_seen_7 : decode cX5_seen 7 = .ok (.iload_n 2, 1) := by decide +kernel
theorem dX5_seen_8 : decode cX5_seen 8 = .ok (.invokestatic 34, 3) := by decide +kernel
theorem dX5_seen_11 : decode cX5_seen 11 = .ok (.ifCond .ne 5, 3) := by decide +kernel
theorem dX5_seen_14 : decode cX5_seen 14 = .ok (.iconst (-1), 1) := by decide +kernel
theorem dX5_seen_15 : decode cX5_seen 15 = .ok (.ireturn, 1) := by decide +kernel
theorem dX5_seen_16 : decode cX5_seen 16 = .ok (.iload_n 1, 1) := by decide +kernel
theorem dX5_seen_17 : decode cX5_seen 17 = .ok (.iload_n 2, 1) := by decide +kernel
theorem dX5_seen_18 : decode cX5_seen 18 = .ok (.if_icmp .ne 6, 3) := by decide +kernel
theorem dX5_seen_21 : decode cX5_seen 21 = .ok (.bipush (-2), 2) := by decide +kernel
theorem dX5_seen_23 : decode cX5_seen 23 = .ok (.ireturn, 1) := by decide +kernel
theorem dX5_seen_24 : decode cX5_seen 24 = .ok (.aload_n 0, 1) := by decide +kernel
theorem dX5_seen_25 : decode cX5_seen 25 = .ok (.getfield 10, 3) := by decide +kernel
theorem dX5_seen_28 : decode cX5_seen 28 = .ok (.getfield 42, 3) := by decide +kernel
theorem dX5_seen_31 : decode cX5_seen 31 = .ok (.iload_n 1, 1) := by decide +kernel
theorem dX5_seen_32 : decode cX5_seen 32 = .ok (.aaload, 1) := by decide +kernel
theorem dX5_seen_33 : decode cX5_seen 33 = .ok (.getfield 119, 3) := by decide +kernel
theorem dX5_seen_36 : decode cX5_seen 36 = .ok (.astore_n 3, 1) := by decide +kernel
theorem dX5_seen_37 : decode cX5_seen 37 = .ok (.aload_n 3, 1) := by decide +kernel
theorem dX5_seen_38 : decode cX5_seen 38 = .ok (.getfield 128, 3) := by decide +kernel
theorem dX5_seen_41 : decode cX5_seen 41 = .ok (.iload_n 2, 1) := by decide +kernel
theorem dX5_seen_42 : decode cX5_seen 42 = .ok (.invokestatic 131, 3) := by decide +kernel
theorem dX5_seen_45 : decode cX5_seen 45 = .ok (.ifCond .eq 15, 3) := by decide +kernel
theorem dX5_seen_48 : decode cX5_seen 48 = .ok (.aload_n 3, 1) := by decide +kernel
theorem dX5_seen_49 : decode cX5_seen 49 = .ok (.getfield 134, 3) := by decide +kernel
theorem dX5_seen_52 : decode cX5_seen 52 = .ok (.iload_n 2, 1) := by decide +kernel
theorem dX5_seen_53 : decode cX5_seen 53 = .ok (.iaload, 1) := by decide +kernel
theorem dX5_seen_54 : decode cX5_seen 54 = .ok (.ldc 112, 2) := by decide +kernel
theorem dX5_seen_56 : decode cX5_seen 56 = .ok (.iadd, 1) := by decide +kernel
theorem dX5_seen_57 : decode cX5_seen 57 = .ok (.goto 5, 3) := by decide +kernel
theorem dX5_seen_60 : decode cX5_seen 60 = .ok (.bipush (-6), 2) := by decide +kernel
theorem dX5_seen_62 : decode cX5_seen 62 = .ok (.ireturn, 1) := by decide +kernel
theorem dX5_trim_0 : decode cX5_trim 0 = .ok (.iload_n 1, 1) := by decide +kernel
theorem dX5_trim_1 : decode cX5_trim 1 = .ok (.iconst 1, 1) := by decide +kernel
theorem dX5_trim_2 : decode cX5_trim 2 = .ok (.iconst 4, 1) := by decide +kernel
theorem dX5_trim_3 : decode cX5_trim 3 = .ok (.invokestatic 38, 3) := by decide +kernel
theorem dX5_trim_6 : decode cX5_trim 6 = .ok (.ifCond .ne 6, 3) := by decide +kernel
theorem dX5_trim_9 : decode cX5_trim 9 = .ok (.bipush (-2), 2) := by decide +kernel
theorem dX5_trim_11 : decode cX5_trim 11 = .ok (.ireturn, 1) := by decide +kernel
theorem dX5_trim_12 : decode cX5_trim 12 = .ok (.aload_n 0, 1) := by decide +kernel
theorem dX5_trim_13 : decode cX5_trim 13 = .ok (.getfield 30, 3) := by decide +kernel
theorem dX5_trim_16 : decode cX5_trim 16 = .ok (.invokevirtual 138, 3) := by decide +kernel
theorem dX5_trim_19 : decode cX5_trim 19 = .ok (.aload_n 0, 1) := by decide +kernel
theorem dX5_trim_20 : decode cX5_trim 20 = .ok (.getfield 30, 3) := by decide +kernel
theorem dX5_trim_23 : decode cX5_trim 23 = .ok (.iload_n 2, 1) := by decide +kernel
theorem dX5_trim_24 : decode cX5_trim 24 = .ok (.invokevirtual 141, 3) := by decide +kernel
theorem dX5_trim_27 : decode cX5_trim 27 = .ok (.iload_n 1, 1) := by decide +kernel
theorem dX5_trim_28 : decode cX5_trim 28 = .ok (.iconst 2, 1) := by decide +kernel
theorem dX5_trim_29 : decode cX5_trim 29 = .ok (.if_icmp .lt 11, 3) := by decide +kernel
theorem dX5_trim_32 : decode cX5_trim 32 = .ok (.aload_n 0, 1) := by decide +kernel
theorem dX5_trim_33 : decode cX5_trim 33 = .ok (.getfield 30, 3) := by decide +kernel
theorem dX5_trim_36 : decode cX5_trim 36 = .ok (.iload_n 3, 1) := by decide +kernel
theorem dX5_trim_37 : decode cX5_trim 37 = .ok (.invokevirtual 141, 3) := by decide +kernel
theorem dX5_trim_40 : decode cX5_trim 40 = .ok (.iload_n 1, 1) := by decide +kernel
theorem dX5_trim_41 : decode cX5_trim 41 = .ok (.iconst 3, 1) := by decide +kernel
theorem dX5_trim_42 : decode cX5_trim 42 = .ok (.if_icmp .lt 12, 3) := by decide +kernel
theorem dX5_trim_45 : decode cX5_trim 45 = .ok (.aload_n 0, 1) := by decide +kernel
theorem dX5_trim_46 : decode cX5_trim 46 = .ok (.getfield 30, 3) := by decide +kernel
theorem dX5_trim_49 : decode cX5_trim 49 = .ok (.iload 4, 2) := by decide +kernel
theorem dX5_trim_51 : decode cX5_trim 51 = .ok (.invokevirtual 141, 3) := by decide +kernel
theorem dX5_trim_54 : decode cX5_trim 54 = .ok (.iload_n 1, 1) := by decide +kernel
theorem dX5_trim_55 : decode cX5_trim 55 = .ok (.iconst 4, 1) := by decide +kernel
theorem dX5_trim_56 : decode cX5_trim 56 = .ok (.if_icmp .lt 12, 3) := by decide +kernel
theorem dX5_trim_59 : decode cX5_trim 59 = .ok (.aload_n 0, 1) := by decide +kernel
theorem dX5_trim_60 : decode cX5_trim 60 = .ok (.getfield 30, 3) := by decide +kernel
theorem dX5_trim_63 : decode cX5_trim 63 = .ok (.iload 5, 2) := by decide +kernel
theorem dX5_trim_65 : decode cX5_trim 65 = .ok (.invokevirtual 141, 3) := by decide +kernel
theorem dX5_trim_68 : decode cX5_trim 68 = .ok (.aload_n 0, 1) := by decide +kernel
theorem dX5_trim_69 : decode cX5_trim 69 = .ok (.getfield 30, 3) := by decide +kernel
theorem dX5_trim_72 : decode cX5_trim 72 = .ok (.sipush (-5000), 3) := by decide +kernel
theorem dX5_trim_75 : decode cX5_trim 75 = .ok (.sipush 5000, 3) := by decide +kernel
theorem dX5_trim_78 : decode cX5_trim 78 = .ok (.invokevirtual 145, 3) := by decide +kernel
theorem dX5_trim_81 : decode cX5_trim 81 = .ok (.ifCond .ne 6, 3) := by decide +kernel
theorem dX5_trim_84 : decode cX5_trim 84 = .ok (.bipush (-2), 2) := by decide +kernel
theorem dX5_trim_86 : decode cX5_trim 86 = .ok (.ireturn, 1) := by decide +kernel
theorem dX5_trim_87 : decode cX5_trim 87 = .ok (.aload_n 0, 1) := by decide +kernel
theorem dX5_trim_88 : decode cX5_trim 88 = .ok (.getfield 30, 3) := by decide +kernel
theorem dX5_trim_91 : decode cX5_trim 91 = .ok (.invokevirtual 148, 3) := by decide +kernel
theorem dX5_trim_94 : decode cX5_trim 94 = .ok (.ldc 112, 2) := by decide +kernel
theorem dX5_trim_96 : decode cX5_trim 96 = .ok (.iadd, 1) := by decide +kernel
theorem dX5_trim_97 : decode cX5_trim 97 = .ok (.ireturn, 1) := by decide +kernel
theorem dX5_event_0 : decode cX5_event 0 = .ok (.iload_n 2, 1) := by decide +kernel
theorem dX5_event_1 : decode cX5_event 1 = .ok (.iconst 0, 1) := by decide +kernel
theorem dX5_event_2 : decode cX5_event 2 = .ok (.iconst 2, 1) := by decide +kernel
theorem dX5_event_3 : decode cX5_event 3 = .ok (.invokestatic 38, 3) := by decide +kernel
theorem dX5_event_6 : decode cX5_event 6 = .ok (.ifCond .ne 6, 3) := by decide +kernel
theorem dX5_event_9 : decode cX5_event 9 = .ok (.bipush (-2), 2) := by decide +kernel
theorem dX5_event_11 : decode cX5_event 11 = .ok (.ireturn, 1) := by decide +kernel
theorem dX5_event_12 : decode cX5_event 12 = .ok (.iload_n 1, 1) := by decide +kernel
theorem dX5_event_13 : decode cX5_event 13 = .ok (.iconst (-1), 1) := by decide +kernel
theorem dX5_event_14 : decode cX5_event 14 = .ok (.if_icmp .ne 14, 3) := by decide +kernel
theorem dX5_event_17 : decode cX5_event 17 = .ok (.aload_n 0, 1) := by decide +kernel
theorem dX5_event_18 : decode cX5_event 18 = .ok (.getfield 10, 3) := by decide +kernel
theorem dX5_event_21 : decode cX5_event 21 = .ok (.getfield 151, 3) := by decide +kernel
theorem dX5_event_24 : decode cX5_event 24 = .ok (.getfield 155, 3) := by decide +kernel
theorem dX5_event_27 : decode cX5_event 27 = .ok (.ireturn, 1) := by decide +kernel
theorem dX5_event_28 : decode cX5_event 28 = .ok (.aload_n 0, 1) := by decide +kernel
theorem dX5_event_29 : decode cX5_event 29 = .ok (.getfield 10, 3) := by decide +kernel
theorem dX5_event_32 : decode cX5_event 32 = .ok (.getfield 151, 3) := by decide +kernel
theorem dX5_event_35 : decode cX5_event 35 = .ok (.iload_n 1, 1) := by decide +kernel
theorem dX5_event_36 : decode cX5_event 36 = .ok (.invokevirtual 160, 3) := by decide +kernel
theorem dX5_event_39 : decode cX5_event 39 = .ok (.istore_n 3, 1) := by decide +kernel
theorem dX5_event_40 : decode cX5_event 40 = .ok (.iload_n 3, 1) := by decide +kernel
theorem dX5_event_41 : decode cX5_event 41 = .ok (.ifCond .ge 6, 3) := by decide +kernel
theorem dX5_event_44 : decode cX5_event 44 = .ok (.bipush (-6), 2) := by decide +kernel
theorem dX5_event_46 : decode cX5_event 46 = .ok (.ireturn, 1) := by decide +kernel
theorem dX5_event_47 : decode cX5_event 47 = .ok (.iload_n 2, 1) := by decide +kernel
theorem dX5_event_48 : decode cX5_event 48 = .ok (.lookupswitch 54 #[(0, 28), (1, 41)], 28) := by decide +kernel
theorem dX5_event_76 : decode cX5_event 76 = .ok (.aload_n 0, 1) := by decide +kernel
theorem dX5_event_77 : decode cX5_event 77 = .ok (.getfield 10, 3) := by decide +kernel
theorem dX5_event_80 : decode cX5_event 80 = .ok (.getfield 151, 3) := by decide +kernel
theorem dX5_event_83 : decode cX5_event 83 = .ok (.getfield 163, 3) := by decide +kernel
theorem dX5_event_86 : decode cX5_event 86 = .ok (.iload_n 3, 1) := by decide +kernel
theorem dX5_event_87 : decode cX5_event 87 = .ok (.iaload, 1) := by decide +kernel
theorem dX5_event_88 : decode cX5_event 88 = .ok (.ireturn, 1) := by decide +kernel
theorem dX5_event_89 : decode cX5_event 89 = .ok (.aload_n 0, 1) := by decide +kernel
theorem dX5_event_90 : decode cX5_event 90 = .ok (.getfield 10, 3) := by decide +kernel
theorem dX5_event_93 : decode cX5_event 93 = .ok (.getfield 151, 3) := by decide +kernel
theorem dX5_event_96 : decode cX5_event 96 = .ok (.getfield 166, 3) := by decide +kernel
theorem dX5_event_99 : decode cX5_event 99 = .ok (.iload_n 3, 1) := by decide +kernel
theorem dX5_event_100 : decode cX5_event 100 = .ok (.iaload, 1) := by decide +kernel
theorem dX5_event_101 : decode cX5_event 101 = .ok (.ireturn, 1) := by decide +kernel
theorem dX5_event_102 : decode cX5_event 102 = .ok (.aload_n 0, 1) := by decide +kernel
theorem dX5_event_103 : decode cX5_event 103 = .ok (.getfield 10, 3) := by decide +kernel
theorem dX5_event_106 : decode cX5_event 106 = .ok (.getfield 151, 3) := by decide +kernel
theorem dX5_event_109 : decode cX5_event 109 = .ok (.getfield 168, 3) := by decide +kernel
theorem dX5_event_112 : decode cX5_event 112 = .ok (.iload_n 3, 1) := by decide +kernel
theorem dX5_event_113 : decode cX5_event 113 = .ok (.iaload, 1) := by decide +kernel
theorem dX5_event_114 : decode cX5_event 114 = .ok (.ireturn, 1) := by decide +kernel
theorem dX5_spread_0 : decode cX5_spread 0 = .ok (.aload_n 0, 1) := by decide +kernel
theorem dX5_spread_1 : decode cX5_spread 1 = .ok (.getfield 10, 3) := by decide +kernel
theorem dX5_spread_4 : decode cX5_spread 4 = .ok (.aload_n 0, 1) := by decide +kernel
theorem dX5_spread_5 : decode cX5_spread 5 = .ok (.getfield 10, 3) := by decide +kernel
theorem dX5_spread_8 : decode cX5_spread 8 = .ok (.iconst 4, 1) := by decide +kernel
theorem dX5_spread_9 : decode cX5_spread 9 = .ok (.invokevirtual 94, 3) := by decide +kernel
theorem dX5_spread_12 : decode cX5_spread 12 = .ok (.invokevirtual 171, 3) := by decide +kernel
theorem dX5_spread_15 : decode cX5_spread 15 = .ok (.ireturn, 1) := by decide +kernel
theorem dX5_soon_0 : decode cX5_soon 0 = .ok (.aload_n 0, 1) := by decide +kernel
theorem dX5_soon_1 : decode cX5_soon 1 = .ok (.getfield 10, 3) := by decide +kernel
theorem dX5_soon_4 : decode cX5_soon 4 = .ok (.invokevirtual 81, 3) := by decide +kernel
theorem dX5_soon_7 : decode cX5_soon 7 = .ok (.istore_n 1, 1) := by decide +kernel
theorem dX5_soon_8 : decode cX5_soon 8 = .ok (.iload_n 1, 1) := by decide +kernel
theorem dX5_soon_9 : decode cX5_soon 9 = .ok (.ifCond .ne 6, 3) := by decide +kernel
theorem dX5_soon_12 : decode cX5_soon 12 = .ok (.bipush (-6), 2) := by decide +kernel
theorem dX5_soon_14 : decode cX5_soon 14 = .ok (.ireturn, 1) := by decide +kernel
theorem dX5_soon_15 : decode cX5_soon 15 = .ok (.aload_n 0, 1) := by decide +kernel
theorem dX5_soon_16 : decode cX5_soon 16 = .ok (.getfield 16, 3) := by decide +kernel
theorem dX5_soon_19 : decode cX5_soon 19 = .ok (.aload_n 0, 1) := by decide +kernel
theorem dX5_soon_20 : decode cX5_soon 20 = .ok (.getfield 10, 3) := by decide +kernel
theorem dX5_soon_23 : decode cX5_soon 23 = .ok (.invokevirtual 174, 3) := by decide +kernel
theorem dX5_soon_26 : decode cX5_soon 26 = .ok (.iconst 0, 1) := by decide +kernel
theorem dX5_soon_27 : decode cX5_soon 27 = .ok (.istore_n 2, 1) := by decide +kernel
theorem dX5_soon_28 : decode cX5_soon 28 = .ok (.iload_n 2, 1) := by decide +kernel
theorem dX5_soon_29 : decode cX5_soon 29 = .ok (.sipush 200, 3) := by decide +kernel
theorem dX5_soon_32 : decode cX5_soon 32 = .ok (.if_icmp .gt 33, 3) := by decide +kernel
theorem dX5_soon_35 : decode cX5_soon 35 = .ok (.iload_n 1, 1) := by decide +kernel
theorem dX5_soon_36 : decode cX5_soon 36 = .ok (.aload_n 0, 1) := by decide +kernel
theorem dX5_soon_37 : decode cX5_soon 37 = .ok (.getfield 16, 3) := by decide +kernel
theorem dX5_soon_40 : decode cX5_soon 40 = .ok (.iconst 4, 1) := by decide +kernel
theorem dX5_soon_41 : decode cX5_soon 41 = .ok (.invokevirtual 94, 3) := by decide +kernel
theorem dX5_soon_44 : decode cX5_soon 44 = .ok (.invokestatic 178, 3) := by decide +kernel
theorem dX5_soon_47 : decode cX5_soon 47 = .ok (.ifCond .eq 5, 3) := by decide +kernel
theorem dX5_soon_50 : decode cX5_soon 50 = .ok (.iload_n 2, 1) := by decide +kernel
theorem dX5_soon_51 : decode cX5_soon 51 = .ok (.ireturn, 1) := by decide +kernel
theorem dX5_soon_52 : decode cX5_soon 52 = .ok (.aload_n 0, 1) := by decide +kernel
theorem dX5_soon_53 : decode cX5_soon 53 = .ok (.getfield 16, 3) := by decide +kernel
theorem dX5_soon_56 : decode cX5_soon 56 = .ok (.invokevirtual 91, 3) := by decide +kernel
theorem dX5_soon_59 : decode cX5_soon 59 = .ok (.iinc 2 1, 3) := by decide +kernel
theorem dX5_soon_62 : decode cX5_soon 62 = .ok (.goto (-34), 3) := by decide +kernel
theorem dX5_soon_65 : decode cX5_soon 65 = .ok (.bipush (-6), 2) := by decide +kernel
theorem dX5_soon_67 : decode cX5_soon 67 = .ok (.ireturn, 1) := by decide +kernel
theorem dX5_bears_0 : decode cX5_bears 0 = .ok (.iload_n 1, 1) := by decide +kernel
theorem dX5_bears_1 : decode cX5_bears 1 = .ok (.invokestatic 34, 3) := by decide +kernel
theorem dX5_bears_4 : decode cX5_bears 4 = .ok (.ifCond .ne 5, 3) := by decide +kernel
theorem dX5_bears_7 : decode cX5_bears 7 = .ok (.iconst (-1), 1) := by decide +kernel
theorem dX5_bears_8 : decode cX5_bears 8 = .ok (.ireturn, 1) := by decide +kernel
theorem dX5_bears_9 : decode cX5_bears 9 = .ok (.iload_n 2, 1) := by decide +kernel
theorem dX5_bears_10 : decode cX5_bears 10 = .ok (.iconst 1, 1) := by decide +kernel
theorem dX5_bears_11 : decode cX5_bears 11 = .ok (.bipush 40, 2) := by decide +kernel
theorem dX5_bears_13 : decode cX5_bears 13 = .ok (.invokestatic 38, 3) := by decide +kernel
theorem dX5_bears_16 : decode cX5_bears 16 = .ok (.ifCond .eq 14, 3) := by decide +kernel
theorem dX5_bears_19 : decode cX5_bears 19 = .ok (.iload_n 3, 1) := by decide +kernel
theorem dX5_bears_20 : decode cX5_bears 20 = .ok (.iconst 0, 1) := by decide +kernel
theorem dX5_bears_21 : decode cX5_bears 21 = .ok (.sipush 999, 3) := by decide +kernel
theorem dX5_bears_24 : decode cX5_bears 24 = .ok (.invokestatic 38, 3) := by decide +kernel
theorem dX5_bears_27 : decode cX5_bears 27 = .ok (.ifCond .ne 6, 3) := by decide +kernel
theorem dX5_bears_30 : decode cX5_bears 30 = .ok (.bipush (-2), 2) := by decide +kernel
theorem dX5_bears_32 : decode cX5_bears 32 = .ok (.ireturn, 1) := by decide +kernel
theorem dX5_bears_33 : decode cX5_bears 33 = .ok (.sipush 400, 3) := by decide +kernel
theorem dX5_bears_36 : decode cX5_bears 36 = .ok (.istore 4, 2) := by decide +kernel
theorem dX5_bears_38 : decode cX5_bears 38 = .ok (.iload 4, 2) := by decide +kernel
theorem dX5_bears_40 : decode cX5_bears 40 = .ok (.ifCond .lt 52, 3) := by decide +kernel
theorem dX5_bears_43 : decode cX5_bears 43 = .ok (.aload_n 0, 1) := by decide +kernel
theorem dX5_bears_44 : decode cX5_bears 44 = .ok (.getfield 16, 3) := by decide +kernel
theorem dX5_bears_47 : decode cX5_bears 47 = .ok (.aload_n 0, 1) := by decide +kernel
theorem dX5_bears_48 : decode cX5_bears 48 = .ok (.getfield 10, 3) := by decide +kernel
theorem dX5_bears_51 : decode cX5_bears 51 = .ok (.invokevirtual 174, 3) := by decide +kernel
theorem dX5_bears_54 : decode cX5_bears 54 = .ok (.aload_n 0, 1) := by decide +kernel
theorem dX5_bears_55 : decode cX5_bears 55 = .ok (.getfield 16, 3) := by decide +kernel
theorem dX5_bears_58 : decode cX5_bears 58 = .ok (.getfield 42, 3) := by decide +kernel
theorem dX5_bears_61 : decode cX5_bears 61 = .ok (.iload_n 1, 1) := by decide +kernel
theorem dX5_bears_62 : decode cX5_bears 62 = .ok (.aaload, 1) := by decide +kernel
theorem dX5_bears_63 : decode cX5_bears 63 = .ok (.iload 4, 2) := by decide +kernel
theorem dX5_bears_65 : decode cX5_bears 65 = .ok (.putfield 67, 3) := by decide +kernel
theorem dX5_bears_68 : decode cX5_bears 68 = .ok (.aload_n 0, 1) := by decide +kernel
theorem dX5_bears_69 : decode cX5_bears 69 = .ok (.iload_n 1, 1) := by decide +kernel
theorem dX5_bears_70 : decode cX5_bears 70 = .ok (.invokestatic 181, 3) := by decide +kernel
theorem dX5_bears_73 : decode cX5_bears 73 = .ok (.iconst (-1), 1) := by decide +kernel
theorem dX5_bears_74 : decode cX5_bears 74 = .ok (.ixor, 1) := by decide +kernel
theorem dX5_bears_75 : decode cX5_bears 75 = .ok (.iload_n 2, 1) := by decide +kernel
theorem dX5_bears_76 : decode cX5_bears 76 = .ok (.iload_n 3, 1) := by decide +kernel
theorem dX5_bears_77 : decode cX5_bears 77 = .ok (.invokevirtual 184, 3) := by decide +kernel
theorem dX5_bears_80 : decode cX5_bears 80 = .ok (.ifCond .eq 6, 3) := by decide +kernel
theorem dX5_bears_83 : decode cX5_bears 83 = .ok (.iload 4, 2) := by decide +kernel
theorem dX5_bears_85 : decode cX5_bears 85 = .ok (.ireturn, 1) := by decide +kernel
theorem dX5_bears_86 : decode cX5_bears 86 = .ok (.iinc 4 (-10), 3) := by decide +kernel
theorem dX5_bears_89 : decode cX5_bears 89 = .ok (.goto (-51), 3) := by decide +kernel
theorem dX5_bears_92 : decode cX5_bears 92 = .ok (.bipush (-6), 2) := by decide +kernel
theorem dX5_bears_94 : decode cX5_bears 94 = .ok (.ireturn, 1) := by decide +kernel
theorem dX5_image_0 : decode cX5_image 0 = .ok (.iload_n 1, 1) := by decide +kernel
theorem dX5_image_1 : decode cX5_image 1 = .ok (.iconst 0, 1) := by decide +kernel
theorem dX5_image_2 : decode cX5_image 2 = .ok (.iconst 1, 1) := by decide +kernel
theorem dX5_image_3 : decode cX5_image 3 = .ok (.invokestatic 38, 3) := by decide +kernel
theorem dX5_image_6 : decode cX5_image 6 = .ok (.ifCond .ne 6, 3) := by decide +kernel
theorem dX5_image_9 : decode cX5_image 9 = .ok (.bipush (-2), 2) := by decide +kernel
theorem dX5_image_11 : decode cX5_image 11 = .ok (.ireturn, 1) := by decide +kernel
theorem dX5_image_12 : decode cX5_image 12 = .ok (.aload_n 0, 1) := by decide +kernel
theorem dX5_image_13 : decode cX5_image 13 = .ok (.getfield 19, 3) := by decide +kernel
theorem dX5_image_16 : decode cX5_image 16 = .ok (.iload_n 1, 1) := by decide +kernel
theorem dX5_image_17 : decode cX5_image 17 = .ok (.aaload, 1) := by decide +kernel
theorem dX5_image_18 : decode cX5_image 18 = .ok (.aload_n 0, 1) := by decide +kernel
theorem dX5_image_19 : decode cX5_image 19 = .ok (.getfield 10, 3) := by decide +kernel
theorem dX5_image_22 : decode cX5_image 22 = .ok (.invokevirtual 174, 3) := by decide +kernel
theorem dX5_image_25 : decode cX5_image 25 = .ok (.aload_n 0, 1) := by decide +kernel
theorem dX5_image_26 : decode cX5_image 26 = .ok (.dup, 1) := by decide +kernel
theorem dX5_image_27 : decode cX5_image 27 = .ok (.getfield 23, 3) := by decide +kernel
theorem dX5_image_30 : decode cX5_image 30 = .ok (.iload_n 1, 1) := by decide +kernel
theorem dX5_image_31 : decode cX5_image 31 = .ok (.invokestatic 181, 3) := by decide +kernel
theorem dX5_image_34 : decode cX5_image 34 = .ok (.ior, 1) := by decide +kernel
theorem dX5_image_35 : decode cX5_image 35 = .ok (.putfield 23, 3) := by decide +kernel
theorem dX5_image_38 : decode cX5_image 38 = .ok (.iconst 1, 1) := by decide +kernel
theorem dX5_image_39 : decode cX5_image 39 = .ok (.ireturn, 1) := by decide +kernel
theorem dX5_restore_0 : decode cX5_restore 0 = .ok (.iload_n 1, 1) := by decide +kernel
theorem dX5_restore_1 : decode cX5_restore 1 = .ok (.iconst 0, 1) := by decide +kernel
theorem dX5_restore_2 : decode cX5_restore 2 = .ok (.iconst 1, 1) := by decide +kernel
theorem dX5_restore_3 : decode cX5_restore 3 = .ok (.invokestatic 38, 3) := by decide +kernel
theorem dX5_restore_6 : decode cX5_restore 6 = .ok (.ifCond .ne 6, 3) := by decide +kernel
theorem dX5_restore_9 : decode cX5_restore 9 = .ok (.bipush (-2), 2) := by decide +kernel
theorem dX5_restore_11 : decode cX5_restore 11 = .ok (.ireturn, 1) := by decide +kernel
theorem dX5_restore_12 : decode cX5_restore 12 = .ok (.aload_n 0, 1) := by decide +kernel
theorem dX5_restore_13 : decode cX5_restore 13 = .ok (.getfield 23, 3) := by decide +kernel
theorem dX5_restore_16 : decode cX5_restore 16 = .ok (.iload_n 1, 1) := by decide +kernel
theorem dX5_restore_17 : decode cX5_restore 17 = .ok (.invokestatic 131, 3) := by decide +kernel
theorem dX5_restore_20 : decode cX5_restore 20 = .ok (.ifCond .ne 6, 3) := by decide +kernel
theorem dX5_restore_23 : decode cX5_restore 23 = .ok (.bipush (-3), 2) := by decide +kernel
theorem dX5_restore_25 : decode cX5_restore 25 = .ok (.ireturn, 1) := by decide +kernel
theorem dX5_restore_26 : decode cX5_restore 26 = .ok (.aload_n 0, 1) := by decide +kernel
theorem dX5_restore_27 : decode cX5_restore 27 = .ok (.getfield 10, 3) := by decide +kernel
theorem dX5_restore_30 : decode cX5_restore 30 = .ok (.aload_n 0, 1) := by decide +kernel
theorem dX5_restore_31 : decode cX5_restore 31 = .ok (.getfield 19, 3) := by decide +kernel
theorem dX5_restore_34 : decode cX5_restore 34 = .ok (.iload_n 1, 1) := by decide +kernel
theorem dX5_restore_35 : decode cX5_restore 35 = .ok (.aaload, 1) := by decide +kernel
theorem dX5_restore_36 : decode cX5_restore 36 = .ok (.invokevirtual 174, 3) := by decide +kernel
theorem dX5_restore_39 : decode cX5_restore 39 = .ok (.iconst 1, 1) := by decide +kernel
theorem dX5_restore_40 : decode cX5_restore 40 = .ok (.ireturn, 1) := by decide +kernel
theorem dX5_count_0 : decode cX5_count 0 = .ok (.iload_n 1, 1) := by decide +kernel
theorem dX5_count_1 : decode cX5_count 1 = .ok (.tableswitch 87 0 5 #[39, 47, 55, 64, 74, 82], 39) := by decide +kernel
theorem dX5_count_40 : decode cX5_count 40 = .ok (.aload_n 0, 1) := by decide +kernel
theorem dX5_count_41 : decode cX5_count 41 = .ok (.getfield 10, 3) := by decide +kernel
theorem dX5_count_44 : decode cX5_count 44 = .ok (.getfield 187, 3) := by decide +kernel
theorem dX5_count_47 : decode cX5_count 47 = .ok (.ireturn, 1) := by decide +kernel
theorem dX5_count_48 : decode cX5_count 48 = .ok (.aload_n 0, 1) := by decide +kernel
theorem dX5_count_49 : decode cX5_count 49 = .ok (.getfield 10, 3) := by decide +kernel
theorem dX5_count_52 : decode cX5_count 52 = .ok (.getfield 189, 3) := by decide +kernel
theorem dX5_count_55 : decode cX5_count 55 = .ok (.ireturn, 1) := by decide +kernel
theorem dX5_count_56 : decode cX5_count 56 = .ok (.aload_n 0, 1) := by decide +kernel
theorem dX5_count_57 : decode cX5_count 57 = .ok (.getfield 10, 3) := by decide +kernel
theorem dX5_count_60 : decode cX5_count 60 = .ok (.iconst 4, 1) := by decide +kernel
theorem dX5_count_61 : decode cX5_count 61 = .ok (.invokevirtual 94, 3) := by decide +kernel
theorem dX5_count_64 : decode cX5_count 64 = .ok (.ireturn, 1) := by decide +kernel
theorem dX5_count_65 : decode cX5_count 65 = .ok (.aload_n 0, 1) := by decide +kernel
theorem dX5_count_66 : decode cX5_count 66 = .ok (.getfield 10, 3) := by decide +kernel
theorem dX5_count_69 : decode cX5_count 69 = .ok (.bipush 6, 2) := by decide +kernel
theorem dX5_count_71 : decode cX5_count 71 = .ok (.invokevirtual 94, 3) := by decide +kernel
theorem dX5_count_74 : decode cX5_count 74 = .ok (.ireturn, 1) := by decide +kernel
theorem dX5_count_75 : decode cX5_count 75 = .ok (.aload_n 0, 1) := by decide +kernel
theorem dX5_count_76 : decode cX5_count 76 = .ok (.getfield 10, 3) := by decide +kernel
theorem dX5_count_79 : decode cX5_count 79 = .ok (.getfield 70, 3) := by decide +kernel
theorem dX5_count_82 : decode cX5_count 82 = .ok (.ireturn, 1) := by decide +kernel
theorem dX5_count_83 : decode cX5_count 83 = .ok (.aload_n 0, 1) := by decide +kernel
theorem dX5_count_84 : decode cX5_count 84 = .ok (.getfield 23, 3) := by decide +kernel
theorem dX5_count_87 : decode cX5_count 87 = .ok (.ireturn, 1) := by decide +kernel
theorem dX5_count_88 : decode cX5_count 88 = .ok (.bipush (-2), 2) := by decide +kernel
theorem dX5_count_90 : decode cX5_count 90 = .ok (.ireturn, 1) := by decide +kernel
theorem dX5_staysTogether_0 : decode cX5_staysTogether 0 = .ok (.aload_n 0, 1) := by decide +kernel
theorem dX5_staysTogether_1 : decode cX5_staysTogether 1 = .ok (.getfield 16, 3) := by decide +kernel
theorem dX5_staysTogether_4 : decode cX5_staysTogether 4 = .ok (.iconst 4, 1) := by decide +kernel
theorem dX5_staysTogether_5 : decode cX5_staysTogether 5 = .ok (.invokevirtual 94, 3) := by decide +kernel
theorem dX5_staysTogether_8 : decode cX5_staysTogether 8 = .ok (.iload_n 1, 1) := by decide +kernel
theorem dX5_staysTogether_9 : decode cX5_staysTogether 9 = .ok (.iand, 1) := by decide +kernel
theorem dX5_staysTogether_10 : decode cX5_staysTogether 10 = .ok (.istore 4, 2) := by decide +kernel
theorem dX5_staysTogether_12 : decode cX5_staysTogether 12 = .ok (.iconst 0, 1) := by decide +kernel
theorem dX5_staysTogether_13 : decode cX5_staysTogether 13 = .ok (.istore 5, 2) := by decide +kernel
theorem dX5_staysTogether_15 : decode cX5_staysTogether 15 = .ok (.iload 5, 2) := by decide +kernel
theorem dX5_staysTogether_17 : decode cX5_staysTogether 17 = .ok (.iload_n 2, 1) := by decide +kernel
theorem dX5_staysTogether_18 : decode cX5_staysTogether 18 = .ok (.if_icmp .ge 53, 3) := by decide +kernel
theorem dX5_staysTogether_21 : decode cX5_staysTogether 21 = .ok (.aload_n 0, 1) := by decide +kernel
theorem dX5_staysTogether_22 : decode cX5_staysTogether 22 = .ok (.getfield 16, 3) := by decide +kernel
theorem dX5_staysTogether_25 : decode cX5_staysTogether 25 = .ok (.invokevirtual 91, 3) := by decide +kernel
theorem dX5_staysTogether_28 : decode cX5_staysTogether 28 = .ok (.aload_n 0, 1) := by decide +kernel
theorem dX5_staysTogether_29 : decode cX5_staysTogether 29 = .ok (.getfield 16, 3) := by decide +kernel
theorem dX5_staysTogether_32 : decode cX5_staysTogether 32 = .ok (.iconst 4, 1) := by decide +kernel
theorem dX5_staysTogether_33 : decode cX5_staysTogether 33 = .ok (.invokevirtual 94, 3) := by decide +kernel
theorem dX5_staysTogether_36 : decode cX5_staysTogether 36 = .ok (.iload_n 1, 1) := by decide +kernel
theorem dX5_staysTogether_37 : decode cX5_staysTogether 37 = .ok (.iand, 1) := by decide +kernel
theorem dX5_staysTogether_38 : decode cX5_staysTogether 38 = .ok (.istore 6, 2) := by decide +kernel
theorem dX5_staysTogether_40 : decode cX5_staysTogether 40 = .ok (.iload 4, 2) := by decide +kernel
theorem dX5_staysTogether_42 : decode cX5_staysTogether 42 = .ok (.iload 6, 2) := by decide +kernel
theorem dX5_staysTogether_44 : decode cX5_staysTogether 44 = .ok (.invokestatic 178, 3) := by decide +kernel
theorem dX5_staysTogether_47 : decode cX5_staysTogether 47 = .ok (.ifCond .eq 16, 3) := by decide +kernel
theorem dX5_staysTogether_50 : decode cX5_staysTogether 50 = .ok (.aload_n 0, 1) := by decide +kernel
theorem dX5_staysTogether_51 : decode cX5_staysTogether 51 = .ok (.getfield 16, 3) := by decide +kernel
theorem dX5_staysTogether_54 : decode cX5_staysTogether 54 = .ok (.iload 6, 2) := by decide +kernel
theorem dX5_staysTogether_56 : decode cX5_staysTogether 56 = .ok (.invokevirtual 171, 3) := by decide +kernel
theorem dX5_staysTogether_59 : decode cX5_staysTogether 59 = .ok (.iload_n 3, 1) := by decide +kernel
theorem dX5_staysTogether_60 : decode cX5_staysTogether 60 = .ok (.if_icmp .le 5, 3) := by decide +kernel
theorem dX5_staysTogether_63 : decode cX5_staysTogether 63 = .ok (.iconst 0, 1) := by decide +kernel
theorem dX5_staysTogether_64 : decode cX5_staysTogether 64 = .ok (.ireturn, 1) := by decide +kernel
theorem dX5_staysTogether_65 : decode cX5_staysTogether 65 = .ok (.iinc 5 1, 3) := by decide +kernel
theorem dX5_staysTogether_68 : decode cX5_staysTogether 68 = .ok (.goto (-53), 3) := by decide +kernel
theorem dX5_staysTogether_71 : decode cX5_staysTogether 71 = .ok (.iconst 1, 1) := by decide +kernel
theorem dX5_staysTogether_72 : decode cX5_staysTogether 72 = .ok (.ireturn, 1) := by decide +kernel
theorem dX5_isNode_0 : decode cX5_isNode 0 = .ok (.iload_n 0, 1) := by decide +kernel
theorem dX5_isNode_1 : decode cX5_isNode 1 = .ok (.iconst 0, 1) := by decide +kernel
theorem dX5_isNode_2 : decode cX5_isNode 2 = .ok (.iconst 5, 1) := by decide +kernel
theorem dX5_isNode_3 : decode cX5_isNode 3 = .ok (.invokestatic 38, 3) := by decide +kernel
theorem dX5_isNode_6 : decode cX5_isNode 6 = .ok (.ireturn, 1) := by decide +kernel
theorem dX5_isWithin_0 : decode cX5_isWithin 0 = .ok (.iload_n 0, 1) := by decide +kernel
theorem dX5_isWithin_1 : decode cX5_isWithin 1 = .ok (.iload_n 1, 1) := by decide +kernel
theorem dX5_isWithin_2 : decode cX5_isWithin 2 = .ok (.if_icmp .lt 12, 3) := by decide +kernel
theorem dX5_isWithin_5 : decode cX5_isWithin 5 = .ok (.iload_n 0, 1) := by decide +kernel
theorem dX5_isWithin_6 : decode cX5_isWithin 6 = .ok (.iload_n 2, 1) := by decide +kernel
theorem dX5_isWithin_7 : decode cX5_isWithin 7 = .ok (.if_icmp .gt 7, 3) := by decide +kernel
theorem dX5_isWithin_10 : decode cX5_isWithin 10 = .ok (.iconst 1, 1) := by decide +kernel
theorem dX5_isWithin_11 : decode cX5_isWithin 11 = .ok (.goto 4, 3) := by decide +kernel
theorem dX5_isWithin_14 : decode cX5_isWithin 14 = .ok (.iconst 0, 1) := by decide +kernel
theorem dX5_isWithin_15 : decode cX5_isWithin 15 = .ok (.ireturn, 1) := by decide +kernel
theorem dX5_bitOf_0 : decode cX5_bitOf 0 = .ok (.iconst 1, 1) := by decide +kernel
theorem dX5_bitOf_1 : decode cX5_bitOf 1 = .ok (.iload_n 0, 1) := by decide +kernel
theorem dX5_bitOf_2 : decode cX5_bitOf 2 = .ok (.ishl, 1) := by decide +kernel
theorem dX5_bitOf_3 : decode cX5_bitOf 3 = .ok (.ireturn, 1) := by decide +kernel
theorem dX5_isIn_0 : decode cX5_isIn 0 = .ok (.iload_n 0, 1) := by decide +kernel
theorem dX5_isIn_1 : decode cX5_isIn 1 = .ok (.iload_n 1, 1) := by decide +kernel
theorem dX5_isIn_2 : decode cX5_isIn 2 = .ok (.ishr, 1) := by decide +kernel
theorem dX5_isIn_3 : decode cX5_isIn 3 = .ok (.iconst 1, 1) := by decide +kernel
theorem dX5_isIn_4 : decode cX5_isIn 4 = .ok (.iand, 1) := by decide +kernel
theorem dX5_isIn_5 : decode cX5_isIn 5 = .ok (.iconst 1, 1) := by decide +kernel
theorem dX5_isIn_6 : decode cX5_isIn 6 = .ok (.if_icmp .ne 7, 3) := by decide +kernel
theorem dX5_isIn_9 : decode cX5_isIn 9 = .ok (.iconst 1, 1) := by decide +kernel
theorem dX5_isIn_10 : decode cX5_isIn 10 = .ok (.goto 4, 3) := by decide +kernel
theorem dX5_isIn_13 : decode cX5_isIn 13 = .ok (.iconst 0, 1) := by decide +kernel
theorem dX5_isIn_14 : decode cX5_isIn 14 = .ok (.ireturn, 1) := by decide +kernel
theorem dX5_areAllIn_0 : decode cX5_areAllIn 0 = .ok (.iload_n 0, 1) := by decide +kernel
theorem dX5_areAllIn_1 : decode cX5_areAllIn 1 = .ok (.iload_n 1, 1) := by decide +kernel
theorem dX5_areAllIn_2 : decode cX5_areAllIn 2 = .ok (.iconst (-1), 1) := by decide +kernel
theorem dX5_areAllIn_3 : decode cX5_areAllIn 3 = .ok (.ixor, 1) := by decide +kernel
theorem dX5_areAllIn_4 : decode cX5_areAllIn 4 = .ok (.iand, 1) := by decide +kernel
theorem dX5_areAllIn_5 : decode cX5_areAllIn 5 = .ok (.ifCond .ne 7, 3) := by decide +kernel
theorem dX5_areAllIn_8 : decode cX5_areAllIn 8 = .ok (.iconst 1, 1) := by decide +kernel
theorem dX5_areAllIn_9 : decode cX5_areAllIn 9 = .ok (.goto 4, 3) := by decide +kernel
theorem dX5_areAllIn_12 : decode cX5_areAllIn 12 = .ok (.iconst 0, 1) := by decide +kernel
theorem dX5_areAllIn_13 : decode cX5_areAllIn 13 = .ok (.ireturn, 1) := by decide +kernel
theorem dJ6_bitCount_0f7a4_0 : decode cJ6_bitCount_0f7a4 0 = .ok (.iload_n 0, 1) := by decide +kernel
theorem dJ6_bitCount_0f7a4_1 : decode cJ6_bitCount_0f7a4 1 = .ok (.iload_n 0, 1) := by decide +kernel
theorem dJ6_bitCount_0f7a4_2 : decode cJ6_bitCount_0f7a4 2 = .ok (.iconst 1, 1) := by decide +kernel
theorem dJ6_bitCount_0f7a4_3 : decode cJ6_bitCount_0f7a4 3 = .ok (.iushr, 1) := by decide +kernel
theorem dJ6_bitCount_0f7a4_4 : decode cJ6_bitCount_0f7a4 4 = .ok (.ldc_w 265, 3) := by decide +kernel
theorem dJ6_bitCount_0f7a4_7 : decode cJ6_bitCount_0f7a4 7 = .ok (.iand, 1) := by decide +kernel
theorem dJ6_bitCount_0f7a4_8 : decode cJ6_bitCount_0f7a4 8 = .ok (.isub, 1) := by decide +kernel
theorem dJ6_bitCount_0f7a4_9 : decode cJ6_bitCount_0f7a4 9 = .ok (.istore_n 0, 1) := by decide +kernel
theorem dJ6_bitCount_0f7a4_10 : decode cJ6_bitCount_0f7a4 10 = .ok (.iload_n 0, 1) := by decide +kernel
theorem dJ6_bitCount_0f7a4_11 : decode cJ6_bitCount_0f7a4 11 = .ok (.ldc_w 266, 3) := by decide +kernel
theorem dJ6_bitCount_0f7a4_14 : decode cJ6_bitCount_0f7a4 14 = .ok (.iand, 1) := by decide +kernel
theorem dJ6_bitCount_0f7a4_15 : decode cJ6_bitCount_0f7a4 15 = .ok (.iload_n 0, 1) := by decide +kernel
theorem dJ6_bitCount_0f7a4_16 : decode cJ6_bitCount_0f7a4 16 = .ok (.iconst 2, 1) := by decide +kernel
theorem dJ6_bitCount_0f7a4_17 : decode cJ6_bitCount_0f7a4 17 = .ok (.iushr, 1) := by decide +kernel
theorem dJ6_bitCount_0f7a4_18 : decode cJ6_bitCount_0f7a4 18 = .ok (.ldc_w 266, 3) := by decide +kernel
theorem dJ6_bitCount_0f7a4_21 : decode cJ6_bitCount_0f7a4 21 = .ok (.iand, 1) := by decide +kernel
theorem dJ6_bitCount_0f7a4_22 : decode cJ6_bitCount_0f7a4 22 = .ok (.iadd, 1) := by decide +kernel
theorem dJ6_bitCount_0f7a4_23 : decode cJ6_bitCount_0f7a4 23 = .ok (.istore_n 0, 1) := by decide +kernel
theorem dJ6_bitCount_0f7a4_24 : decode cJ6_bitCount_0f7a4 24 = .ok (.iload_n 0, 1) := by decide +kernel
theorem dJ6_bitCount_0f7a4_25 : decode cJ6_bitCount_0f7a4 25 = .ok (.iload_n 0, 1) := by decide +kernel
theorem dJ6_bitCount_0f7a4_26 : decode cJ6_bitCount_0f7a4 26 = .ok (.iconst 4, 1) := by decide +kernel
theorem dJ6_bitCount_0f7a4_27 : decode cJ6_bitCount_0f7a4 27 = .ok (.iushr, 1) := by decide +kernel
theorem dJ6_bitCount_0f7a4_28 : decode cJ6_bitCount_0f7a4 28 = .ok (.iadd, 1) := by decide +kernel
theorem dJ6_bitCount_0f7a4_29 : decode cJ6_bitCount_0f7a4 29 = .ok (.ldc_w 267, 3) := by decide +kernel
theorem dJ6_bitCount_0f7a4_32 : decode cJ6_bitCount_0f7a4 32 = .ok (.iand, 1) := by decide +kernel
theorem dJ6_bitCount_0f7a4_33 : decode cJ6_bitCount_0f7a4 33 = .ok (.istore_n 0, 1) := by decide +kernel
theorem dJ6_bitCount_0f7a4_34 : decode cJ6_bitCount_0f7a4 34 = .ok (.iload_n 0, 1) := by decide +kernel
theorem dJ6_bitCount_0f7a4_35 : decode cJ6_bitCount_0f7a4 35 = .ok (.iload_n 0, 1) := by decide +kernel
theorem dJ6_bitCount_0f7a4_36 : decode cJ6_bitCount_0f7a4 36 = .ok (.bipush 8, 2) := by decide +kernel
theorem dJ6_bitCount_0f7a4_38 : decode cJ6_bitCount_0f7a4 38 = .ok (.iushr, 1) := by decide +kernel
theorem dJ6_bitCount_0f7a4_39 : decode cJ6_bitCount_0f7a4 39 = .ok (.iadd, 1) := by decide +kernel
theorem dJ6_bitCount_0f7a4_40 : decode cJ6_bitCount_0f7a4 40 = .ok (.istore_n 0, 1) := by decide +kernel
theorem dJ6_bitCount_0f7a4_41 : decode cJ6_bitCount_0f7a4 41 = .ok (.iload_n 0, 1) := by decide +kernel
theorem dJ6_bitCount_0f7a4_42 : decode cJ6_bitCount_0f7a4 42 = .ok (.iload_n 0, 1) := by decide +kernel
theorem dJ6_bitCount_0f7a4_43 : decode cJ6_bitCount_0f7a4 43 = .ok (.bipush 16, 2) := by decide +kernel
theorem dJ6_bitCount_0f7a4_45 : decode cJ6_bitCount_0f7a4 45 = .ok (.iushr, 1) := by decide +kernel
theorem dJ6_bitCount_0f7a4_46 : decode cJ6_bitCount_0f7a4 46 = .ok (.iadd, 1) := by decide +kernel
theorem dJ6_bitCount_0f7a4_47 : decode cJ6_bitCount_0f7a4 47 = .ok (.istore_n 0, 1) := by decide +kernel
theorem dJ6_bitCount_0f7a4_48 : decode cJ6_bitCount_0f7a4 48 = .ok (.iload_n 0, 1) := by decide +kernel
theorem dJ6_bitCount_0f7a4_49 : decode cJ6_bitCount_0f7a4 49 = .ok (.bipush 63, 2) := by decide +kernel
theorem dJ6_bitCount_0f7a4_51 : decode cJ6_bitCount_0f7a4 51 = .ok (.iand, 1) := by decide +kernel
theorem dJ6_bitCount_0f7a4_52 : decode cJ6_bitCount_0f7a4 52 = .ok (.ireturn, 1) := by decide +kernel
theorem dJ9_abs_0f7a4_0 : decode cJ9_abs_0f7a4 0 = .ok (.iload_n 0, 1) := by decide +kernel
theorem dJ9_abs_0f7a4_1 : decode cJ9_abs_0f7a4 1 = .ok (.ifCond .ge 8, 3) := by decide +kernel
theorem dJ9_abs_0f7a4_4 : decode cJ9_abs_0f7a4 4 = .ok (.iload_n 0, 1) := by decide +kernel
theorem dJ9_abs_0f7a4_5 : decode cJ9_abs_0f7a4 5 = .ok (.ineg, 1) := by decide +kernel
theorem dJ9_abs_0f7a4_6 : decode cJ9_abs_0f7a4 6 = .ok (.goto 4, 3) := by decide +kernel
theorem dJ9_abs_0f7a4_9 : decode cJ9_abs_0f7a4 9 = .ok (.iload_n 0, 1) := by decide +kernel
theorem dJ9_abs_0f7a4_10 : decode cJ9_abs_0f7a4 10 = .ok (.ireturn, 1) := by decide +kernel
theorem dJ9_max_7cf53_0 : decode cJ9_max_7cf53 0 = .ok (.iload_n 0, 1) := by decide +kernel
theorem dJ9_max_7cf53_1 : decode cJ9_max_7cf53 1 = .ok (.iload_n 1, 1) := by decide +kernel
theorem dJ9_max_7cf53_2 : decode cJ9_max_7cf53 2 = .ok (.if_icmp .lt 7, 3) := by decide +kernel
theorem dJ9_max_7cf53_5 : decode cJ9_max_7cf53 5 = .ok (.iload_n 0, 1) := by decide +kernel
theorem dJ9_max_7cf53_6 : decode cJ9_max_7cf53 6 = .ok (.goto 4, 3) := by decide +kernel
theorem dJ9_max_7cf53_9 : decode cJ9_max_7cf53 9 = .ok (.iload_n 1, 1) := by decide +kernel
theorem dJ9_max_7cf53_10 : decode cJ9_max_7cf53 10 = .ok (.ireturn, 1) := by decide +kernel
theorem dJ9_min_7cf53_0 : decode cJ9_min_7cf53 0 = .ok (.iload_n 0, 1) := by decide +kernel
theorem dJ9_min_7cf53_1 : decode cJ9_min_7cf53 1 = .ok (.iload_n 1, 1) := by decide +kernel
theorem dJ9_min_7cf53_2 : decode cJ9_min_7cf53 2 = .ok (.if_icmp .gt 7, 3) := by decide +kernel
theorem dJ9_min_7cf53_5 : decode cJ9_min_7cf53 5 = .ok (.iload_n 0, 1) := by decide +kernel
theorem dJ9_min_7cf53_6 : decode cJ9_min_7cf53 6 = .ok (.goto 4, 3) := by decide +kernel
theorem dJ9_min_7cf53_9 : decode cJ9_min_7cf53 9 = .ok (.iload_n 1, 1) := by decide +kernel
theorem dJ9_min_7cf53_10 : decode cJ9_min_7cf53 10 = .ok (.ireturn, 1) := by decide +kernel
theorem dL_law_0 : decode cL_law 0 = .ok (.new 7, 3) := by decide +kernel
theorem dL_law_3 : decode cL_law 3 = .ok (.dup, 1) := by decide +kernel
theorem dL_law_4 : decode cL_law 4 = .ok (.invokespecial 9, 3) := by decide +kernel
theorem dL_law_7 : decode cL_law 7 = .ok (.astore_n 1, 1) := by decide +kernel
theorem dL_law_8 : decode cL_law 8 = .ok (.new 10, 3) := by decide +kernel
theorem dL_law_11 : decode cL_law 11 = .ok (.dup, 1) := by decide +kernel
theorem dL_law_12 : decode cL_law 12 = .ok (.invokespecial 12, 3) := by decide +kernel
theorem dL_law_15 : decode cL_law 15 = .ok (.astore_n 2, 1) := by decide +kernel
theorem dL_law_16 : decode cL_law 16 = .ok (.iconst 0, 1) := by decide +kernel
theorem dL_law_17 : decode cL_law 17 = .ok (.istore_n 3, 1) := by decide +kernel
theorem dL_law_18 : decode cL_law 18 = .ok (.iload_n 3, 1) := by decide +kernel
theorem dL_law_19 : decode cL_law 19 = .ok (.aload_n 0, 1) := by decide +kernel
theorem dL_law_20 : decode cL_law 20 = .ok (.arraylength, 1) := by decide +kernel
theorem dL_law_21 : decode cL_law 21 = .ok (.bipush 6, 2) := by decide +kernel
theorem dL_law_23 : decode cL_law 23 = .ok (.isub, 1) := by decide +kernel
theorem dL_law_24 : decode cL_law 24 = .ok (.if_icmp .gt 592, 3) := by decide +kernel
theorem dL_law_27 : decode cL_law 27 = .ok (.aload_n 0, 1) := by decide +kernel
theorem dL_law_28 : decode cL_law 28 = .ok (.iload_n 3, 1) := by decide +kernel
theorem dL_law_29 : decode cL_law 29 = .ok (.iaload, 1) := by decide +kernel
theorem dL_law_30 : decode cL_law 30 = .ok (.bipush 15, 2) := by decide +kernel
theorem dL_law_32 : decode cL_law 32 = .ok (.iand, 1) := by decide +kernel
theorem dL_law_33 : decode cL_law 33 = .ok (.tableswitch 577 0 15 #[79, 132, 175, 198, 231, 254, 277, 310, 343, 406, 439, 452, 465, 508, 531, 554], 79) := by decide +kernel
theorem dL_law_112 : decode cL_law 112 = .ok (.aload_n 1, 1) := by decide +kernel
theorem dL_law_113 : decode cL_law 113 = .ok (.aload_n 0, 1) := by decide +kernel
theorem dL_law_114 : decode cL_law 114 = .ok (.iload_n 3, 1) := by decide +kernel
theorem dL_law_115 : decode cL_law 115 = .ok (.iconst 1, 1) := by decide +kernel
theorem dL_law_116 : decode cL_law 116 = .ok (.iadd, 1) := by decide +kernel
theorem dL_law_117 : decode cL_law 117 = .ok (.iaload, 1) := by decide +kernel
theorem dL_law_118 : decode cL_law 118 = .ok (.aload_n 0, 1) := by decide +kernel
theorem dL_law_119 : decode cL_law 119 = .ok (.iload_n 3, 1) := by decide +kernel
theorem dL_law_120 : decode cL_law 120 = .ok (.iconst 2, 1) := by decide +kernel
theorem dL_law_121 : decode cL_law 121 = .ok (.iadd, 1) := by decide +kernel
theorem dL_law_122 : decode cL_law 122 = .ok (.iaload, 1) := by decide +kernel
theorem dL_law_123 : decode cL_law 123 = .ok (.aload_n 0, 1) := by decide +kernel
theorem dL_law_124 : decode cL_law 124 = .ok (.iload_n 3, 1) := by decide +kernel
theorem dL_law_125 : decode cL_law 125 = .ok (.iconst 3, 1) := by decide +kernel
theorem dL_law_126 : decode cL_law 126 = .ok (.iadd, 1) := by decide +kernel
theorem dL_law_127 : decode cL_law 127 = .ok (.iaload, 1) := by decide +kernel
theorem dL_law_128 : decode cL_law 128 = .ok (.aload_n 0, 1) := by decide +kernel
theorem dL_law_129 : decode cL_law 129 = .ok (.iload_n 3, 1) := by decide +kernel
theorem dL_law_130 : decode cL_law 130 = .ok (.iconst 4, 1) := by decide +kernel
theorem dL_law_131 : decode cL_law 131 = .ok (.iadd, 1) := by decide +kernel
theorem dL_law_132 : decode cL_law 132 = .ok (.iaload, 1) := by decide +kernel
theorem dL_law_133 : decode cL_law 133 = .ok (.invokevirtual 13, 3) := by decide +kernel
theorem dL_law_136 : decode cL_law 136 = .ok (.aload_n 2, 1) := by decide +kernel
theorem dL_law_137 : decode cL_law 137 = .ok (.aload_n 0, 1) := by decide +kernel
theorem dL_law_138 : decode cL_law 138 = .ok (.iload_n 3, 1) := by decide +kernel
theorem dL_law_139 : decode cL_law 139 = .ok (.iconst 1, 1) := by decide +kernel
theorem dL_law_140 : decode cL_law 140 = .ok (.iadd, 1) := by decide +kernel
theorem dL_law_141 : decode cL_law 141 = .ok (.iaload, 1) := by decide +kernel
theorem dL_law_142 : decode cL_law 142 = .ok (.aload_n 0, 1) := by decide +kernel
theorem dL_law_143 : decode cL_law 143 = .ok (.iload_n 3, 1) := by decide +kernel
theorem dL_law_144 : decode cL_law 144 = .ok (.iconst 2, 1) := by decide +kernel
theorem dL_law_145 : decode cL_law 145 = .ok (.iadd, 1) := by decide +kernel
theorem dL_law_146 : decode cL_law 146 = .ok (.iaload, 1) := by decide +kernel
theorem dL_law_147 : decode cL_law 147 = .ok (.aload_n 0, 1) := by decide +kernel
theorem dL_law_148 : decode cL_law 148 = .ok (.iload_n 3, 1) := by decide +kernel
theorem dL_law_149 : decode cL_law 149 = .ok (.iconst 3, 1) := by decide +kernel
theorem dL_law_150 : decode cL_law 150 = .ok (.iadd, 1) := by decide +kernel
theorem dL_law_151 : decode cL_law 151 = .ok (.iaload, 1) := by decide +kernel
theorem dL_law_152 : decode cL_law 152 = .ok (.aload_n 0, 1) := by decide +kernel
theorem dL_law_153 : decode cL_law 153 = .ok (.iload_n 3, 1) := by decide +kernel
theorem dL_law_154 : decode cL_law 154 = .ok (.iconst 4, 1) := by decide +kernel
theorem dL_law_155 : decode cL_law 155 = .ok (.iadd, 1) := by decide +kernel
theorem dL_law_156 : decode cL_law 156 = .ok (.iaload, 1) := by decide +kernel
theorem dL_law_157 : decode cL_law 157 = .ok (.invokevirtual 17, 3) := by decide +kernel
theorem dL_law_160 : decode cL_law 160 = .ok (.if_icmp .eq 450, 3) := by decide +kernel
theorem dL_law_163 : decode cL_law 163 = .ok (.iconst 0, 1) := by decide +kernel
theorem dL_law_164 : decode cL_law 164 = .ok (.ireturn, 1) := by decide +kernel
theorem dL_law_165 : decode cL_law 165 = .ok (.aload_n 1, 1) := by decide +kernel
theorem dL_law_166 : decode cL_law 166 = .ok (.aload_n 0, 1) := by decide +kernel
theorem dL_law_167 : decode cL_law 167 = .ok (.iload_n 3, 1) := by decide +kernel
theorem dL_law_168 : decode cL_law 168 = .ok (.iconst 1, 1) := by decide +kernel
theorem dL_law_169 : decode cL_law 169 = .ok (.iadd, 1) := by decide +kernel
theorem dL_law_170 : decode cL_law 170 = .ok (.iaload, 1) := by decide +kernel
theorem dL_law_171 : decode cL_law 171 = .ok (.aload_n 0, 1) := by decide +kernel
theorem dL_law_172 : decode cL_law 172 = .ok (.iload_n 3, 1) := by decide +kernel
theorem dL_law_173 : decode cL_law 173 = .ok (.iconst 2, 1) := by decide +kernel
theorem dL_law_174 : decode cL_law 174 = .ok (.iadd, 1) := by decide +kernel
theorem dL_law_175 : decode cL_law 175 = .ok (.iaload, 1) := by decide +kernel
theorem dL_law_176 : decode cL_law 176 = .ok (.aload_n 0, 1) := by decide +kernel
theorem dL_law_177 : decode cL_law 177 = .ok (.iload_n 3, 1) := by decide +kernel
theorem dL_law_178 : decode cL_law 178 = .ok (.iconst 3, 1) := by decide +kernel
theorem dL_law_179 : decode cL_law 179 = .ok (.iadd, 1) := by decide +kernel
theorem dL_law_180 : decode cL_law 180 = .ok (.iaload, 1) := by decide +kernel
theorem dL_law_181 : decode cL_law 181 = .ok (.invokevirtual 18, 3) := by decide +kernel
theorem dL_law_184 : decode cL_law 184 = .ok (.aload_n 2, 1) := by decide +kernel
theorem dL_law_185 : decode cL_law 185 = .ok (.aload_n 0, 1) := by decide +kernel
theorem dL_law_186 : decode cL_law 186 = .ok (.iload_n 3, 1) := by decide +kernel
theorem dL_law_187 : decode cL_law 187 = .ok (.iconst 1, 1) := by decide +kernel
theorem dL_law_188 : decode cL_law 188 = .ok (.iadd, 1) := by decide +kernel
theorem dL_law_189 : decode cL_law 189 = .ok (.iaload, 1) := by decide +kernel
theorem dL_law_190 : decode cL_law 190 = .ok (.aload_n 0, 1) := by decide +kernel
theorem dL_law_191 : decode cL_law 191 = .ok (.iload_n 3, 1) := by decide +kernel
theorem dL_law_192 : decode cL_law 192 = .ok (.iconst 2, 1) := by decide +kernel
theorem dL_law_193 : decode cL_law 193 = .ok (.iadd, 1) := by decide +kernel
theorem dL_law_194 : decode cL_law 194 = .ok (.iaload, 1) := by decide +kernel
theorem dL_law_195 : decode cL_law 195 = .ok (.aload_n 0, 1) := by decide +kernel
theorem dL_law_196 : decode cL_law 196 = .ok (.iload_n 3, 1) := by decide +kernel
theorem dL_law_197 : decode cL_law 197 = .ok (.iconst 3, 1) := by decide +kernel
theorem dL_law_198 : decode cL_law 198 = .ok (.iadd, 1) := by decide +kernel
theorem dL_law_199 : decode cL_law 199 = .ok (.iaload, 1) := by decide +kernel
theorem dL_law_200 : decode cL_law 200 = .ok (.invokevirtual 22, 3) := by decide +kernel
theorem dL_law_203 : decode cL_law 203 = .ok (.if_icmp .eq 407, 3) := by decide +kernel
theorem dL_law_206 : decode cL_law 206 = .ok (.iconst 0, 1) := by decide +kernel
theorem dL_law_207 : decode cL_law 207 = .ok (.ireturn, 1) := by decide +kernel
theorem dL_law_208 : decode cL_law 208 = .ok (.aload_n 1, 1) := by decide +kernel
theorem dL_law_209 : decode cL_law 209 = .ok (.aload_n 0, 1) := by decide +kernel
theorem dL_law_210 : decode cL_law 210 = .ok (.iload_n 3, 1) := by decide +kernel
theorem dL_law_211 : decode cL_law 211 = .ok (.iconst 1, 1) := by decide +kernel
theorem dL_law_212 : decode cL_law 212 = .ok (.iadd, 1) := by decide +kernel
theorem dL_law_213 : decode cL_law 213 = .ok (.iaload, 1) := by decide +kernel
theorem dL_law_214 : decode cL_law 214 = .ok (.invokevirtual 23, 3) := by decide +kernel
theorem dL_law_217 : decode cL_law 217 = .ok (.aload_n 2, 1) := by decide +kernel
theorem dL_law_218 : decode cL_law 218 = .ok (.aload_n 0, 1) := by decide +kernel
theorem dL_law_219 : decode cL_law 219 = .ok (.iload_n 3, 1) := by decide +kernel
theorem dL_law_220 : decode cL_law 220 = .ok (.iconst 1, 1) := by decide +kernel
theorem dL_law_221 : decode cL_law 221 = .ok (.iadd, 1) := by decide +kernel
theorem dL_law_222 : decode cL_law 222 = .ok (.iaload, 1) := by decide +kernel
theorem dL_law_223 : decode cL_law 223 = .ok (.invokevirtual 27, 3) := by decide +kernel
theorem dL_law_226 : decode cL_law 226 = .ok (.if_icmp .eq 384, 3) := by decide +kernel
theorem dL_law_229 : decode cL_law 229 = .ok (.iconst 0, 1) := by decide +kernel
theorem dL_law_230 : decode cL_law 230 = .ok (.ireturn, 1) := by decide +kernel
theorem dL_law_231 : decode cL_law 231 = .ok (.aload_n 1, 1) := by decide +kernel
theorem dL_law_232 : decode cL_law 232 = .ok (.aload_n 0, 1) := by decide +kernel
theorem dL_law_233 : decode cL_law 233 = .ok (.iload_n 3, 1) := by decide +kernel
theorem dL_law_234 : decode cL_law 234 = .ok (.iconst 1, 1) := by decide +kernel
theorem dL_law_235 : decode cL_law 235 = .ok (.iadd, 1) := by decide +kernel
theorem dL_law_236 : decode cL_law 236 = .ok (.iaload, 1) := by decide +kernel
theorem dL_law_237 : decode cL_law 237 = .ok (.aload_n 0, 1) := by decide +kernel
theorem dL_law_238 : decode cL_law 238 = .ok (.iload_n 3, 1) := by decide +kernel
theorem dL_law_239 : decode cL_law 239 = .ok (.iconst 2, 1) := by decide +kernel
theorem dL_law_240 : decode cL_law 240 = .ok (.iadd, 1) := by decide +kernel
theorem dL_law_241 : decode cL_law 241 = .ok (.iaload, 1) := by decide +kernel
theorem dL_law_242 : decode cL_law 242 = .ok (.invokevirtual 28, 3) := by decide +kernel
theorem dL_law_245 : decode cL_law 245 = .ok (.aload_n 2, 1) := by decide +kernel
theorem dL_law_246 : decode cL_law 246 = .ok (.aload_n 0, 1) := by decide +kernel
theorem dL_law_247 : decode cL_law 247 = .ok (.iload_n 3, 1) := by decide +kernel
theorem dL_law_248 : decode cL_law 248 = .ok (.iconst 1, 1) := by decide +kernel
theorem dL_law_249 : decode cL_law 249 = .ok (.iadd, 1) := by decide +kernel
theorem dL_law_250 : decode cL_law 250 = .ok (.iaload, 1) := by decide +kernel
theorem dL_law_251 : decode cL_law 251 = .ok (.aload_n 0, 1) := by decide +kernel
theorem dL_law_252 : decode cL_law 252 = .ok (.iload_n 3, 1) := by decide +kernel
theorem dL_law_253 : decode cL_law 253 = .ok (.iconst 2, 1) := by decide +kernel
theorem dL_law_254 : decode cL_law 254 = .ok (.iadd, 1) := by decide +kernel
theorem dL_law_255 : decode cL_law 255 = .ok (.iaload, 1) := by decide +kernel
theorem dL_law_256 : decode cL_law 256 = .ok (.invokevirtual 32, 3) := by decide +kernel
theorem dL_law_259 : decode cL_law 259 = .ok (.if_icmp .eq 351, 3) := by decide +kernel
theorem dL_law_262 : decode cL_law 262 = .ok (.iconst 0, 1) := by decide +kernel
theorem dL_law_263 : decode cL_law 263 = .ok (.ireturn, 1) := by decide +kernel
theorem dL_law_264 : decode cL_law 264 = .ok (.aload_n 1, 1) := by decide +kernel
theorem dL_law_265 : decode cL_law 265 = .ok (.aload_n 0, 1) := by decide +kernel
theorem dL_law_266 : decode cL_law 266 = .ok (.iload_n 3, 1) := by decide +kernel
theorem dL_law_267 : decode cL_law 267 = .ok (.iconst 1, 1) := by decide +kernel
theorem dL_law_268 : decode cL_law 268 = .ok (.iadd, 1) := by decide +kernel
theorem dL_law_269 : decode cL_law 269 = .ok (.iaload, 1) := by decide +kernel
theorem dL_law_270 : decode cL_law 270 = .ok (.invokevirtual 33, 3) := by decide +kernel
theorem dL_law_273 : decode cL_law 273 = .ok (.aload_n 2, 1) := by decide +kernel
theorem dL_law_274 : decode cL_law 274 = .ok (.aload_n 0, 1) := by decide +kernel
theorem dL_law_275 : decode cL_law 275 = .ok (.iload_n 3, 1) := by decide +kernel
theorem dL_law_276 : decode cL_law 276 = .ok (.iconst 1, 1) := by decide +kernel
theorem dL_law_277 : decode cL_law 277 = .ok (.iadd, 1) := by decide +kernel
theorem dL_law_278 : decode cL_law 278 = .ok (.iaload, 1) := by decide +kernel
theorem dL_law_279 : decode cL_law 279 = .ok (.invokevirtual 36, 3) := by decide +kernel
theorem dL_law_282 : decode cL_law 282 = .ok (.if_icmp .eq 328, 3) := by decide +kernel
theorem dL_law_285 : decode cL_law 285 = .ok (.iconst 0, 1) := by decide +kernel
theorem dL_law_286 : decode cL_law 286 = .ok (.ireturn, 1) := by decide +kernel
theorem dL_law_287 : decode cL_law 287 = .ok (.aload_n 1, 1) := by decide +kernel
theorem dL_law_288 : decode cL_law 288 = .ok (.aload_n 0, 1) := by decide +kernel
theorem dL_law_289 : decode cL_law 289 = .ok (.iload_n 3, 1) := by decide +kernel
theorem dL_law_290 : decode cL_law 290 = .ok (.iconst 1, 1) := by decide +kernel
theorem dL_law_291 : decode cL_law 291 = .ok (.iadd, 1) := by decide +kernel
theorem dL_law_292 : decode cL_law 292 = .ok (.iaload, 1) := by decide +kernel
theorem dL_law_293 : decode cL_law 293 = .ok (.invokevirtual 37, 3) := by decide +kernel
theorem dL_law_296 : decode cL_law 296 = .ok (.aload_n 2, 1) := by decide +kernel
theorem dL_law_297 : decode cL_law 297 = .ok (.aload_n 0, 1) := by decide +kernel
theorem dL_law_298 : decode cL_law 298 = .ok (.iload_n 3, 1) := by decide +kernel
theorem dL_law_299 : decode cL_law 299 = .ok (.iconst 1, 1) := by decide +kernel
theorem dL_law_300 : decode cL_law 300 = .ok (.iadd, 1) := by decide +kernel
theorem dL_law_301 : decode cL_law 301 = .ok (.iaload, 1) := by decide +kernel
theorem dL_law_302 : decode cL_law 302 = .ok (.invokevirtual 40, 3) := by decide +kernel
theorem dL_law_305 : decode cL_law 305 = .ok (.if_icmp .eq 305, 3) := by decide +kernel
theorem dL_law_308 : decode cL_law 308 = .ok (.iconst 0, 1) := by decide +kernel
theorem dL_law_309 : decode cL_law 309 = .ok (.ireturn, 1) := by decide +kernel
theorem dL_law_310 : decode cL_law 310 = .ok (.aload_n 1, 1) := by decide +kernel
theorem dL_law_311 : decode cL_law 311 = .ok (.aload_n 0, 1) := by decide +kernel
theorem dL_law_312 : decode cL_law 312 = .ok (.iload_n 3, 1) := by decide +kernel
theorem dL_law_313 : decode cL_law 313 = .ok (.iconst 1, 1) := by decide +kernel
theorem dL_law_314 : decode cL_law 314 = .ok (.iadd, 1) := by decide +kernel
theorem dL_law_315 : decode cL_law 315 = .ok (.iaload, 1) := by decide +kernel
theorem dL_law_316 : decode cL_law 316 = .ok (.aload_n 0, 1) := by decide +kernel
theorem dL_law_317 : decode cL_law 317 = .ok (.iload_n 3, 1) := by decide +kernel
theorem dL_law_318 : decode cL_law 318 = .ok (.iconst 2, 1) := by decide +kernel
theorem dL_law_319 : decode cL_law 319 = .ok (.iadd, 1) := by decide +kernel
theorem dL_law_320 : decode cL_law 320 = .ok (.iaload, 1) := by decide +kernel
theorem dL_law_321 : decode cL_law 321 = .ok (.invokevirtual 41, 3) := by decide +kernel
theorem dL_law_324 : decode cL_law 324 = .ok (.aload_n 2, 1) := by decide +kernel
theorem dL_law_325 : decode cL_law 325 = .ok (.aload_n 0, 1) := by decide +kernel
theorem dL_law_326 : decode cL_law 326 = .ok (.iload_n 3, 1) := by decide +kernel
theorem dL_law_327 : decode cL_law 327 = .ok (.iconst 1, 1) := by decide +kernel
theorem dL_law_328 : decode cL_law 328 = .ok (.iadd, 1) := by decide +kernel
theorem dL_law_329 : decode cL_law 329 = .ok (.iaload, 1) := by decide +kernel
theorem dL_law_330 : decode cL_law 330 = .ok (.aload_n 0, 1) := by decide +kernel
theorem dL_law_331 : decode cL_law 331 = .ok (.iload_n 3, 1) := by decide +kernel
theorem dL_law_332 : decode cL_law 332 = .ok (.iconst 2, 1) := by decide +kernel
theorem dL_law_333 : decode cL_law 333 = .ok (.iadd, 1) := by decide +kernel
theorem dL_law_334 : decode cL_law 334 = .ok (.iaload, 1) := by decide +kernel
theorem dL_law_335 : decode cL_law 335 = .ok (.invokevirtual 44, 3) := by decide +kernel
theorem dL_law_338 : decode cL_law 338 = .ok (.if_icmp .eq 272, 3) := by decide +kernel
theorem dL_law_341 : decode cL_law 341 = .ok (.iconst 0, 1) := by decide +kernel
theorem dL_law_342 : decode cL_law 342 = .ok (.ireturn, 1) := by decide +kernel
theorem dL_law_343 : decode cL_law 343 = .ok (.aload_n 1, 1) := by decide +kernel
theorem dL_law_344 : decode cL_law 344 = .ok (.aload_n 0, 1) := by decide +kernel
theorem dL_law_345 : decode cL_law 345 = .ok (.iload_n 3, 1) := by decide +kernel
theorem dL_law_346 : decode cL_law 346 = .ok (.iconst 1, 1) := by decide +kernel
theorem dL_law_347 : decode cL_law 347 = .ok (.iadd, 1) := by decide +kernel
theorem dL_law_348 : decode cL_law 348 = .ok (.iaload, 1) := by decide +kernel
theorem dL_law_349 : decode cL_law 349 = .ok (.aload_n 0, 1) := by decide +kernel
theorem dL_law_350 : decode cL_law 350 = .ok (.iload_n 3, 1) := by decide +kernel
theorem dL_law_351 : decode cL_law 351 = .ok (.iconst 2, 1) := by decide +kernel
theorem dL_law_352 : decode cL_law 352 = .ok (.iadd, 1) := by decide +kernel
theorem dL_law_353 : decode cL_law 353 = .ok (.iaload, 1) := by decide +kernel
theorem dL_law_354 : decode cL_law 354 = .ok (.invokevirtual 45, 3) := by decide +kernel
theorem dL_law_357 : decode cL_law 357 = .ok (.aload_n 2, 1) := by decide +kernel
theorem dL_law_358 : decode cL_law 358 = .ok (.aload_n 0, 1) := by decide +kernel
theorem dL_law_359 : decode cL_law 359 = .ok (.iload_n 3, 1) := by decide +kernel
theorem dL_law_360 : decode cL_law 360 = .ok (.iconst 1, 1) := by decide +kernel
theorem dL_law_361 : decode cL_law 361 = .ok (.iadd, 1) := by decide +kernel
theorem dL_law_362 : decode cL_law 362 = .ok (.iaload, 1) := by decide +kernel
theorem dL_law_363 : decode cL_law 363 = .ok (.aload_n 0, 1) := by decide +kernel
theorem dL_law_364 : decode cL_law 364 = .ok (.iload_n 3, 1) := by decide +kernel
theorem dL_law_365 : decode cL_law 365 = .ok (.iconst 2, 1) := by decide +kernel
theorem dL_law_366 : decode cL_law 366 = .ok (.iadd, 1) := by decide +kernel
theorem dL_law_367 : decode cL_law 367 = .ok (.iaload, 1) := by decide +kernel
theorem dL_law_368 : decode cL_law 368 = .ok (.invokevirtual 48, 3) := by decide +kernel
theorem dL_law_371 : decode cL_law 371 = .ok (.if_icmp .eq 239, 3) := by decide +kernel
theorem dL_law_374 : decode cL_law 374 = .ok (.iconst 0, 1) := by decide +kernel
theorem dL_law_375 : decode cL_law 375 = .ok (.ireturn, 1) := by decide +kernel
theorem dL_law_376 : decode cL_law 376 = .ok (.aload_n 1, 1) := by decide +kernel
theorem dL_law_377 : decode cL_law 377 = .ok (.aload_n 0, 1) := by decide +kernel
theorem dL_law_378 : decode cL_law 378 = .ok (.iload_n 3, 1) := by decide +kernel
theorem dL_law_379 : decode cL_law 379 = .ok (.iconst 1, 1) := by decide +kernel
theorem dL_law_380 : decode cL_law 380 = .ok (.iadd, 1) := by decide +kernel
theorem dL_law_381 : decode cL_law 381 = .ok (.iaload, 1) := by decide +kernel
theorem dL_law_382 : decode cL_law 382 = .ok (.aload_n 0, 1) := by decide +kernel
theorem dL_law_383 : decode cL_law 383 = .ok (.iload_n 3, 1) := by decide +kernel
theorem dL_law_384 : decode cL_law 384 = .ok (.iconst 2, 1) := by decide +kernel
theorem dL_law_385 : decode cL_law 385 = .ok (.iadd, 1) := by decide +kernel
theorem dL_law_386 : decode cL_law 386 = .ok (.iaload, 1) := by decide +kernel
theorem dL_law_387 : decode cL_law 387 = .ok (.aload_n 0, 1) := by decide +kernel
theorem dL_law_388 : decode cL_law 388 = .ok (.iload_n 3, 1) := by decide +kernel
theorem dL_law_389 : decode cL_law 389 = .ok (.iconst 3, 1) := by decide +kernel
theorem dL_law_390 : decode cL_law 390 = .ok (.iadd, 1) := by decide +kernel
theorem dL_law_391 : decode cL_law 391 = .ok (.iaload, 1) := by decide +kernel
theorem dL_law_392 : decode cL_law 392 = .ok (.aload_n 0, 1) := by decide +kernel
theorem dL_law_393 : decode cL_law 393 = .ok (.iload_n 3, 1) := by decide +kernel
theorem dL_law_394 : decode cL_law 394 = .ok (.iconst 4, 1) := by decide +kernel
theorem dL_law_395 : decode cL_law 395 = .ok (.iadd, 1) := by decide +kernel
theorem dL_law_396 : decode cL_law 396 = .ok (.iaload, 1) := by decide +kernel
theorem dL_law_397 : decode cL_law 397 = .ok (.aload_n 0, 1) := by decide +kernel
theorem dL_law_398 : decode cL_law 398 = .ok (.iload_n 3, 1) := by decide +kernel
theorem dL_law_399 : decode cL_law 399 = .ok (.iconst 5, 1) := by decide +kernel
theorem dL_law_400 : decode cL_law 400 = .ok (.iadd, 1) := by decide +kernel
theorem dL_law_401 : decode cL_law 401 = .ok (.iaload, 1) := by decide +kernel
theorem dL_law_402 : decode cL_law 402 = .ok (.invokevirtual 49, 3) := by decide +kernel
theorem dL_law_405 : decode cL_law 405 = .ok (.aload_n 2, 1) := by decide +kernel
theorem dL_law_406 : decode cL_law 406 = .ok (.aload_n 0, 1) := by decide +kernel
theorem dL_law_407 : decode cL_law 407 = .ok (.iload_n 3, 1) := by decide +kernel
theorem dL_law_408 : decode cL_law 408 = .ok (.iconst 1, 1) := by decide +kernel
theorem dL_law_409 : decode cL_law 409 = .ok (.iadd, 1) := by decide +kernel
theorem dL_law_410 : decode cL_law 410 = .ok (.iaload, 1) := by decide +kernel
theorem dL_law_411 : decode cL_law 411 = .ok (.aload_n 0, 1) := by decide +kernel
theorem dL_law_412 : decode cL_law 412 = .ok (.iload_n 3, 1) := by decide +kernel
theorem dL_law_413 : decode cL_law 413 = .ok (.iconst 2, 1) := by decide +kernel
theorem dL_law_414 : decode cL_law 414 = .ok (.iadd, 1) := by decide +kernel
theorem dL_law_415 : decode cL_law 415 = .ok (.iaload, 1) := by decide +kernel
theorem dL_law_416 : decode cL_law 416 = .ok (.aload_n 0, 1) := by decide +kernel
theorem dL_law_417 : decode cL_law 417 = .ok (.iload_n 3, 1) := by decide +kernel
theorem dL_law_418 : decode cL_law 418 = .ok (.iconst 3, 1) := by decide +kernel
theorem dL_law_419 : decode cL_law 419 = .ok (.iadd, 1) := by decide +kernel
theorem dL_law_420 : decode cL_law 420 = .ok (.iaload, 1) := by decide +kernel
theorem dL_law_421 : decode cL_law 421 = .ok (.aload_n 0, 1) := by decide +kernel
theorem dL_law_422 : decode cL_law 422 = .ok (.iload_n 3, 1) := by decide +kernel
theorem dL_law_423 : decode cL_law 423 = .ok (.iconst 4, 1) := by decide +kernel
theorem dL_law_424 : decode cL_law 424 = .ok (.iadd, 1) := by decide +kernel
theorem dL_law_425 : decode cL_law 425 = .ok (.iaload, 1) := by decide +kernel
theorem dL_law_426 : decode cL_law 426 = .ok (.aload_n 0, 1) := by decide +kernel
theorem dL_law_427 : decode cL_law 427 = .ok (.iload_n 3, 1) := by decide +kernel
theorem dL_law_428 : decode cL_law 428 = .ok (.iconst 5, 1) := by decide +kernel
theorem dL_law_429 : decode cL_law 429 = .ok (.iadd, 1) := by decide +kernel
theorem dL_law_430 : decode cL_law 430 = .ok (.iaload, 1) := by decide +kernel
theorem dL_law_431 : decode cL_law 431 = .ok (.invokevirtual 53, 3) := by decide +kernel
theorem dL_law_434 : decode cL_law 434 = .ok (.if_icmp .eq 176, 3) := by decide +kernel
theorem dL_law_437 : decode cL_law 437 = .ok (.iconst 0, 1) := by decide +kernel
theorem dL_law_438 : decode cL_law 438 = .ok (.ireturn, 1) := by decide +kernel
theorem dL_law_439 : decode cL_law 439 = .ok (.aload_n 1, 1) := by decide +kernel
theorem dL_law_440 : decode cL_law 440 = .ok (.aload_n 0, 1) := by decide +kernel
theorem dL_law_441 : decode cL_law 441 = .ok (.iload_n 3, 1) := by decide +kernel
theorem dL_law_442 : decode cL_law 442 = .ok (.iconst 1, 1) := by decide +kernel
theorem dL_law_443 : decode cL_law 443 = .ok (.iadd, 1) := by decide +kernel
theorem dL_law_444 : decode cL_law 444 = .ok (.iaload, 1) := by decide +kernel
theorem dL_law_445 : decode cL_law 445 = .ok (.aload_n 0, 1) := by decide +kernel
theorem dL_law_446 : decode cL_law 446 = .ok (.iload_n 3, 1) := by decide +kernel
theorem dL_law_447 : decode cL_law 447 = .ok (.iconst 2, 1) := by decide +kernel
theorem dL_law_448 : decode cL_law 448 = .ok (.iadd, 1) := by decide +kernel
theorem dL_law_449 : decode cL_law 449 = .ok (.iaload, 1) := by decide +kernel
theorem dL_law_450 : decode cL_law 450 = .ok (.invokevirtual 54, 3) := by decide +kernel
theorem dL_law_453 : decode cL_law 453 = .ok (.aload_n 2, 1) := by decide +kernel
theorem dL_law_454 : decode cL_law 454 = .ok (.aload_n 0, 1) := by decide +kernel
theorem dL_law_455 : decode cL_law 455 = .ok (.iload_n 3, 1) := by decide +kernel
theorem dL_law_456 : decode cL_law 456 = .ok (.iconst 1, 1) := by decide +kernel
theorem dL_law_457 : decode cL_law 457 = .ok (.iadd, 1) := by decide +kernel
theorem dL_law_458 : decode cL_law 458 = .ok (.iaload, 1) := by decide +kernel
theorem dL_law_459 : decode cL_law 459 = .ok (.aload_n 0, 1) := by decide +kernel
theorem dL_law_460 : decode cL_law 460 = .ok (.iload_n 3, 1) := by decide +kernel
theorem dL_law_461 : decode cL_law 461 = .ok (.iconst 2, 1) := by decide +kernel
theorem dL_law_462 : decode cL_law 462 = .ok (.iadd, 1) := by decide +kernel
theorem dL_law_463 : decode cL_law 463 = .ok (.iaload, 1) := by decide +kernel
theorem dL_law_464 : decode cL_law 464 = .ok (.invokevirtual 57, 3) := by decide +kernel
theorem dL_law_467 : decode cL_law 467 = .ok (.if_icmp .eq 143, 3) := by decide +kernel
theorem dL_law_470 : decode cL_law 470 = .ok (.iconst 0, 1) := by decide +kernel
theorem dL_law_471 : decode cL_law 471 = .ok (.ireturn, 1) := by decide +kernel
theorem dL_law_472 : decode cL_law 472 = .ok (.aload_n 1, 1) := by decide +kernel
theorem dL_law_473 : decode cL_law 473 = .ok (.invokevirtual 58, 3) := by decide +kernel
theorem dL_law_476 : decode cL_law 476 = .ok (.aload_n 2, 1) := by decide +kernel
theorem dL_law_477 : decode cL_law 477 = .ok (.invokevirtual 62, 3) := by decide +kernel
theorem dL_law_480 : decode cL_law 480 = .ok (.if_icmp .eq 130, 3) := by decide +kernel
theorem dL_law_483 : decode cL_law 483 = .ok (.iconst 0, 1) := by decide +kernel
theorem dL_law_484 : decode cL_law 484 = .ok (.ireturn, 1) := by decide +kernel
theorem dL_law_485 : decode cL_law 485 = .ok (.aload_n 1, 1) := by decide +kernel
theorem dL_law_486 : decode cL_law 486 = .ok (.invokevirtual 63, 3) := by decide +kernel
theorem dL_law_489 : decode cL_law 489 = .ok (.aload_n 2, 1) := by decide +kernel
theorem dL_law_490 : decode cL_law 490 = .ok (.invokevirtual 66, 3) := by decide +kernel
theorem dL_law_493 : decode cL_law 493 = .ok (.if_icmp .eq 117, 3) := by decide +kernel
theorem dL_law_496 : decode cL_law 496 = .ok (.iconst 0, 1) := by decide +kernel
theorem dL_law_497 : decode cL_law 497 = .ok (.ireturn, 1) := by decide +kernel
theorem dL_law_498 : decode cL_law 498 = .ok (.aload_n 1, 1) := by decide +kernel
theorem dL_law_499 : decode cL_law 499 = .ok (.aload_n 0, 1) := by decide +kernel
theorem dL_law_500 : decode cL_law 500 = .ok (.iload_n 3, 1) := by decide +kernel
theorem dL_law_501 : decode cL_law 501 = .ok (.iconst 1, 1) := by decide +kernel
theorem dL_law_502 : decode cL_law 502 = .ok (.iadd, 1) := by decide +kernel
theorem dL_law_503 : decode cL_law 503 = .ok (.iaload, 1) := by decide +kernel
theorem dL_law_504 : decode cL_law 504 = .ok (.aload_n 0, 1) := by decide +kernel
theorem dL_law_505 : decode cL_law 505 = .ok (.iload_n 3, 1) := by decide +kernel
theorem dL_law_506 : decode cL_law 506 = .ok (.iconst 2, 1) := by decide +kernel
theorem dL_law_507 : decode cL_law 507 = .ok (.iadd, 1) := by decide +kernel
theorem dL_law_508 : decode cL_law 508 = .ok (.iaload, 1) := by decide +kernel
theorem dL_law_509 : decode cL_law 509 = .ok (.aload_n 0, 1) := by decide +kernel
theorem dL_law_510 : decode cL_law 510 = .ok (.iload_n 3, 1) := by decide +kernel
theorem dL_law_511 : decode cL_law 511 = .ok (.iconst 3, 1) := by decide +kernel
theorem dL_law_512 : decode cL_law 512 = .ok (.iadd, 1) := by decide +kernel
theorem dL_law_513 : decode cL_law 513 = .ok (.iaload, 1) := by decide +kernel
theorem dL_law_514 : decode cL_law 514 = .ok (.invokevirtual 67, 3) := by decide +kernel
theorem dL_law_517 : decode cL_law 517 = .ok (.aload_n 2, 1) := by decide +kernel
theorem dL_law_518 : decode cL_law 518 = .ok (.aload_n 0, 1) := by decide +kernel
theorem dL_law_519 : decode cL_law 519 = .ok (.iload_n 3, 1) := by decide +kernel
theorem dL_law_520 : decode cL_law 520 = .ok (.iconst 1, 1) := by decide +kernel
theorem dL_law_521 : decode cL_law 521 = .ok (.iadd, 1) := by decide +kernel
theorem dL_law_522 : decode cL_law 522 = .ok (.iaload, 1) := by decide +kernel
theorem dL_law_523 : decode cL_law 523 = .ok (.aload_n 0, 1) := by decide +kernel
theorem dL_law_524 : decode cL_law 524 = .ok (.iload_n 3, 1) := by decide +kernel
theorem dL_law_525 : decode cL_law 525 = .ok (.iconst 2, 1) := by decide +kernel
theorem dL_law_526 : decode cL_law 526 = .ok (.iadd, 1) := by decide +kernel
theorem dL_law_527 : decode cL_law 527 = .ok (.iaload, 1) := by decide +kernel
theorem dL_law_528 : decode cL_law 528 = .ok (.aload_n 0, 1) := by decide +kernel
theorem dL_law_529 : decode cL_law 529 = .ok (.iload_n 3, 1) := by decide +kernel
theorem dL_law_530 : decode cL_law 530 = .ok (.iconst 3, 1) := by decide +kernel
theorem dL_law_531 : decode cL_law 531 = .ok (.iadd, 1) := by decide +kernel
theorem dL_law_532 : decode cL_law 532 = .ok (.iaload, 1) := by decide +kernel
theorem dL_law_533 : decode cL_law 533 = .ok (.invokevirtual 70, 3) := by decide +kernel
theorem dL_law_536 : decode cL_law 536 = .ok (.if_icmp .eq 74, 3) := by decide +kernel
theorem dL_law_539 : decode cL_law 539 = .ok (.iconst 0, 1) := by decide +kernel
theorem dL_law_540 : decode cL_law 540 = .ok (.ireturn, 1) := by decide +kernel
theorem dL_law_541 : decode cL_law 541 = .ok (.aload_n 1, 1) := by decide +kernel
theorem dL_law_542 : decode cL_law 542 = .ok (.aload_n 0, 1) := by decide +kernel
theorem dL_law_543 : decode cL_law 543 = .ok (.iload_n 3, 1) := by decide +kernel
theorem dL_law_544 : decode cL_law 544 = .ok (.iconst 1, 1) := by decide +kernel
theorem dL_law_545 : decode cL_law 545 = .ok (.iadd, 1) := by decide +kernel
theorem dL_law_546 : decode cL_law 546 = .ok (.iaload, 1) := by decide +kernel
theorem dL_law_547 : decode cL_law 547 = .ok (.invokevirtual 71, 3) := by decide +kernel
theorem dL_law_550 : decode cL_law 550 = .ok (.aload_n 2, 1) := by decide +kernel
theorem dL_law_551 : decode cL_law 551 = .ok (.aload_n 0, 1) := by decide +kernel
theorem dL_law_552 : decode cL_law 552 = .ok (.iload_n 3, 1) := by decide +kernel
theorem dL_law_553 : decode cL_law 553 = .ok (.iconst 1, 1) := by decide +kernel
theorem dL_law_554 : decode cL_law 554 = .ok (.iadd, 1) := by decide +kernel
theorem dL_law_555 : decode cL_law 555 = .ok (.iaload, 1) := by decide +kernel
theorem dL_law_556 : decode cL_law 556 = .ok (.invokevirtual 74, 3) := by decide +kernel
theorem dL_law_559 : decode cL_law 559 = .ok (.if_icmp .eq 51, 3) := by decide +kernel
theorem dL_law_562 : decode cL_law 562 = .ok (.iconst 0, 1) := by decide +kernel
theorem dL_law_563 : decode cL_law 563 = .ok (.ireturn, 1) := by decide +kernel
theorem dL_law_564 : decode cL_law 564 = .ok (.aload_n 1, 1) := by decide +kernel
theorem dL_law_565 : decode cL_law 565 = .ok (.aload_n 0, 1) := by decide +kernel
theorem dL_law_566 : decode cL_law 566 = .ok (.iload_n 3, 1) := by decide +kernel
theorem dL_law_567 : decode cL_law 567 = .ok (.iconst 1, 1) := by decide +kernel
theorem dL_law_568 : decode cL_law 568 = .ok (.iadd, 1) := by decide +kernel
theorem dL_law_569 : decode cL_law 569 = .ok (.iaload, 1) := by decide +kernel
theorem dL_law_570 : decode cL_law 570 = .ok (.invokevirtual 75, 3) := by decide +kernel
theorem dL_law_573 : decode cL_law 573 = .ok (.aload_n 2, 1) := by decide +kernel
theorem dL_law_574 : decode cL_law 574 = .ok (.aload_n 0, 1) := by decide +kernel
theorem dL_law_575 : decode cL_law 575 = .ok (.iload_n 3, 1) := by decide +kernel
theorem dL_law_576 : decode cL_law 576 = .ok (.iconst 1, 1) := by decide +kernel
theorem dL_law_577 : decode cL_law 577 = .ok (.iadd, 1) := by decide +kernel
theorem dL_law_578 : decode cL_law 578 = .ok (.iaload, 1) := by decide +kernel
theorem dL_law_579 : decode cL_law 579 = .ok (.invokevirtual 78, 3) := by decide +kernel
theorem dL_law_582 : decode cL_law 582 = .ok (.if_icmp .eq 28, 3) := by decide +kernel
theorem dL_law_585 : decode cL_law 585 = .ok (.iconst 0, 1) := by decide +kernel
theorem dL_law_586 : decode cL_law 586 = .ok (.ireturn, 1) := by decide +kernel
theorem dL_law_587 : decode cL_law 587 = .ok (.aload_n 1, 1) := by decide +kernel
theorem dL_law_588 : decode cL_law 588 = .ok (.aload_n 0, 1) := by decide +kernel
theorem dL_law_589 : decode cL_law 589 = .ok (.iload_n 3, 1) := by decide +kernel
theorem dL_law_590 : decode cL_law 590 = .ok (.iconst 1, 1) := by decide +kernel
theorem dL_law_591 : decode cL_law 591 = .ok (.iadd, 1) := by decide +kernel
theorem dL_law_592 : decode cL_law 592 = .ok (.iaload, 1) := by decide +kernel
theorem dL_law_593 : decode cL_law 593 = .ok (.invokevirtual 79, 3) := by decide +kernel
theorem dL_law_596 : decode cL_law 596 = .ok (.aload_n 2, 1) := by decide +kernel
theorem dL_law_597 : decode cL_law 597 = .ok (.aload_n 0, 1) := by decide +kernel
theorem dL_law_598 : decode cL_law 598 = .ok (.iload_n 3, 1) := by decide +kernel
theorem dL_law_599 : decode cL_law 599 = .ok (.iconst 1, 1) := by decide +kernel
theorem dL_law_600 : decode cL_law 600 = .ok (.iadd, 1) := by decide +kernel
theorem dL_law_601 : decode cL_law 601 = .ok (.iaload, 1) := by decide +kernel
theorem dL_law_602 : decode cL_law 602 = .ok (.invokevirtual 82, 3) := by decide +kernel
theorem dL_law_605 : decode cL_law 605 = .ok (.if_icmp .eq 5, 3) := by decide +kernel
theorem dL_law_608 : decode cL_law 608 = .ok (.iconst 0, 1) := by decide +kernel
theorem dL_law_609 : decode cL_law 609 = .ok (.ireturn, 1) := by decide +kernel
theorem dL_law_610 : decode cL_law 610 = .ok (.iinc 3 6, 3) := by decide +kernel
theorem dL_law_613 : decode cL_law 613 = .ok (.goto (-595), 3) := by decide +kernel
theorem dL_law_616 : decode cL_law 616 = .ok (.iconst 1, 1) := by decide +kernel
theorem dL_law_617 : decode cL_law 617 = .ok (.ireturn, 1) := by decide +kernel
