theorem dX0_init_0 : decode cX0_init 0 = .ok (.aload_n 0, 1) := by decide +kernel
theorem dX0_init_1 : decode cX0_init 1 = .ok (.invokespecial 3, 3) := by decide +kernel
theorem dX0_init_4 : decode cX0_init 4 = .ok (.aload_n 0, 1) := by decide +kernel
theorem dX0_init_5 : decode cX0_init 5 = .ok (.bipush 6, 2) := by decide +kernel
theorem dX0_init_7 : decode cX0_init 7 = .ok (.anewarray 9, 3) := by decide +kernel
theorem dX0_init_10 : decode cX0_init 10 = .ok (.putfield 11, 3) := by decide +kernel
theorem dX0_init_13 : decode cX0_init 13 = .ok (.aload_n 0, 1) := by decide +kernel
theorem dX0_init_14 : decode cX0_init 14 = .ok (.new 17, 3) := by decide +kernel
theorem dX0_init_17 : decode cX0_init 17 = .ok (.dup, 1) := by decide +kernel
theorem dX0_init_18 : decode cX0_init 18 = .ok (.invokespecial 19, 3) := by decide +kernel
theorem dX0_init_21 : decode cX0_init 21 = .ok (.putfield 20, 3) := by decide +kernel
theorem dX0_init_24 : decode cX0_init 24 = .ok (.aload_n 0, 1) := by decide +kernel
theorem dX0_init_25 : decode cX0_init 25 = .ok (.new 24, 3) := by decide +kernel
theorem dX0_init_28 : decode cX0_init 28 = .ok (.dup, 1) := by decide +kernel
theorem dX0_init_29 : decode cX0_init 29 = .ok (.invokespecial 26, 3) := by decide +kernel
theorem dX0_init_32 : decode cX0_init 32 = .ok (.putfield 27, 3) := by decide +kernel
theorem dX0_init_35 : decode cX0_init 35 = .ok (.aload_n 0, 1) := by decide +kernel
theorem dX0_init_36 : decode cX0_init 36 = .ok (.bipush 100, 2) := by decide +kernel
theorem dX0_init_38 : decode cX0_init 38 = .ok (.putfield 31, 3) := by decide +kernel
theorem dX0_init_41 : decode cX0_init 41 = .ok (.aload_n 0, 1) := by decide +kernel
theorem dX0_init_42 : decode cX0_init 42 = .ok (.iconst 0, 1) := by decide +kernel
theorem dX0_init_43 : decode cX0_init 43 = .ok (.putfield 35, 3) := by decide +kernel
theorem dX0_init_46 : decode cX0_init 46 = .ok (.aload_n 0, 1) := by decide +kernel
theorem dX0_init_47 : decode cX0_init 47 = .ok (.iconst 0, 1) := by decide +kernel
theorem dX0_init_48 : decode cX0_init 48 = .ok (.putfield 38, 3) := by decide +kernel
theorem dX0_init_51 : decode cX0_init 51 = .ok (.iconst 0, 1) := by decide +kernel
theorem dX0_init_52 : decode cX0_init 52 = .ok (.istore_n 1, 1) := by decide +kernel
theorem dX0_init_53 : decode cX0_init 53 = .ok (.iload_n 1, 1) := by decide +kernel
theorem dX0_init_54 : decode cX0_init 54 = .ok (.aload_n 0, 1) := by decide +kernel
theorem dX0_init_55 : decode cX0_init 55 = .ok (.getfield 11, 3) := by decide +kernel
theorem dX0_init_58 : decode cX0_init 58 = .ok (.arraylength, 1) := by decide +kernel
theorem dX0_init_59 : decode cX0_init 59 = .ok (.if_icmp .ge 23, 3) := by decide +kernel
theorem dX0_init_62 : decode cX0_init 62 = .ok (.aload_n 0, 1) := by decide +kernel
theorem dX0_init_63 : decode cX0_init 63 = .ok (.getfield 11, 3) := by decide +kernel
theorem dX0_init_66 : decode cX0_init 66 = .ok (.iload_n 1, 1) := by decide +kernel
theorem dX0_init_67 : decode cX0_init 67 = .ok (.new 9, 3) := by decide +kernel
theorem dX0_init_70 : decode cX0_init 70 = .ok (.dup, 1) := by decide +kernel
theorem dX0_init_71 : decode cX0_init 71 = .ok (.iload_n 1, 1) := by decide +kernel
theorem dX0_init_72 : decode cX0_init 72 = .ok (.invokespecial 41, 3) := by decide +kernel
theorem dX0_init_75 : decode cX0_init 75 = .ok (.aastore, 1) := by decide +kernel
theorem dX0_init_76 : decode cX0_init 76 = .ok (.iinc 1 1, 3) := by decide +kernel
theorem dX0_init_79 : decode cX0_init 79 = .ok (.goto (-26), 3) := by decide +kernel
theorem dX0_init_82 : decode cX0_init 82 = .ok (.return_, 1) := by decide +kernel
theorem dX0_copy_0 : decode cX0_copy 0 = .ok (.iconst 0, 1) := by decide +kernel
theorem dX0_copy_1 : decode cX0_copy 1 = .ok (.istore_n 2, 1) := by decide +kernel
theorem dX0_copy_2 : decode cX0_copy 2 = .ok (.iload_n 2, 1) := by decide +kernel
theorem dX0_copy_3 : decode cX0_copy 3 = .ok (.aload_n 0, 1) := by decide +kernel
theorem dX0_copy_4 : decode cX0_copy 4 = .ok (.getfield 11, 3) := by decide +kernel
theorem dX0_copy_7 : decode cX0_copy 7 = .ok (.arraylength, 1) := by decide +kernel
theorem dX0_copy_8 : decode cX0_copy 8 = .ok (.if_icmp .ge 33, 3) := by decide +kernel
theorem dX0_copy_11 : decode cX0_copy 11 = .ok (.iload_n 2, 1) := by decide +kernel
theorem dX0_copy_12 : decode cX0_copy 12 = .ok (.aload_n 1, 1) := by decide +kernel
theorem dX0_copy_13 : decode cX0_copy 13 = .ok (.getfield 11, 3) := by decide +kernel
theorem dX0_copy_16 : decode cX0_copy 16 = .ok (.arraylength, 1) := by decide +kernel
theorem dX0_copy_17 : decode cX0_copy 17 = .ok (.if_icmp .ge 24, 3) := by decide +kernel
theorem dX0_copy_20 : decode cX0_copy 20 = .ok (.aload_n 0, 1) := by decide +kernel
theorem dX0_copy_21 : decode cX0_copy 21 = .ok (.getfield 11, 3) := by decide +kernel
theorem dX0_copy_24 : decode cX0_copy 24 = .ok (.iload_n 2, 1) := by decide +kernel
theorem dX0_copy_25 : decode cX0_copy 25 = .ok (.aaload, 1) := by decide +kernel
theorem dX0_copy_26 : decode cX0_copy 26 = .ok (.aload_n 1, 1) := by decide +kernel
theorem dX0_copy_27 : decode cX0_copy 27 = .ok (.getfield 11, 3) := by decide +kernel
theorem dX0_copy_30 : decode cX0_copy 30 = .ok (.iload_n 2, 1) := by decide +kernel
theorem dX0_copy_31 : decode cX0_copy 31 = .ok (.aaload, 1) := by decide +kernel
theorem dX0_copy_32 : decode cX0_copy 32 = .ok (.invokevirtual 44, 3) := by decide +kernel
theorem dX0_copy_35 : decode cX0_copy 35 = .ok (.iinc 2 1, 3) := by decide +kernel
theorem dX0_copy_38 : decode cX0_copy 38 = .ok (.goto (-36), 3) := by decide +kernel
theorem dX0_copy_41 : decode cX0_copy 41 = .ok (.aload_n 0, 1) := by decide +kernel
theorem dX0_copy_42 : decode cX0_copy 42 = .ok (.getfield 20, 3) := by decide +kernel
theorem dX0_copy_45 : decode cX0_copy 45 = .ok (.aload_n 1, 1) := by decide +kernel
theorem dX0_copy_46 : decode cX0_copy 46 = .ok (.getfield 20, 3) := by decide +kernel
theorem dX0_copy_49 : decode cX0_copy 49 = .ok (.invokevirtual 48, 3) := by decide +kernel
theorem dX0_copy_52 : decode cX0_copy 52 = .ok (.aload_n 0, 1) := by decide +kernel
theorem dX0_copy_53 : decode cX0_copy 53 = .ok (.aload_n 1, 1) := by decide +kernel
theorem dX0_copy_54 : decode cX0_copy 54 = .ok (.getfield 31, 3) := by decide +kernel
theorem dX0_copy_57 : decode cX0_copy 57 = .ok (.putfield 31, 3) := by decide +kernel
theorem dX0_copy_60 : decode cX0_copy 60 = .ok (.aload_n 0, 1) := by decide +kernel
theorem dX0_copy_61 : decode cX0_copy 61 = .ok (.aload_n 1, 1) := by decide +kernel
theorem dX0_copy_62 : decode cX0_copy 62 = .ok (.getfield 35, 3) := by decide +kernel
theorem dX0_copy_65 : decode cX0_copy 65 = .ok (.putfield 35, 3) := by decide +kernel
theorem dX0_copy_68 : decode cX0_copy 68 = .ok (.aload_n 0, 1) := by decide +kernel
theorem dX0_copy_69 : decode cX0_copy 69 = .ok (.aload_n 1, 1) := by decide +kernel
theorem dX0_copy_70 : decode cX0_copy 70 = .ok (.getfield 38, 3) := by decide +kernel
theorem dX0_copy_73 : decode cX0_copy 73 = .ok (.putfield 38, 3) := by decide +kernel
theorem dX0_copy_76 : decode cX0_copy 76 = .ok (.return_, 1) := by decide +kernel
theorem dX0_isSlotOfAnother_0 : decode cX0_isSlotOfAnother 0 = .ok (.iconst 0, 1) := by decide +kernel
theorem dX0_isSlotOfAnother_1 : decode cX0_isSlotOfAnother 1 = .ok (.istore_n 3, 1) := by decide +kernel
theorem dX0_isSlotOfAnother_2 : decode cX0_isSlotOfAnother 2 = .ok (.iload_n 3, 1) := by decide +kernel
theorem dX0_isSlotOfAnother_3 : decode cX0_isSlotOfAnother 3 = .ok (.aload_n 0, 1) := by decide +kernel
theorem dX0_isSlotOfAnother_4 : decode cX0_isSlotOfAnother 4 = .ok (.getfield 11, 3) := by decide +kernel
theorem dX0_isSlotOfAnother_7 : decode cX0_isSlotOfAnother 7 = .ok (.arraylength, 1) := by decide +kernel
theorem dX0_isSlotOfAnother_8 : decode cX0_isSlotOfAnother 8 = .ok (.if_icmp .ge 29, 3) := by decide +kernel
theorem dX0_isSlotOfAnother_11 : decode cX0_isSlotOfAnother 11 = .ok (.iload_n 3, 1) := by decide +kernel
theorem dX0_isSlotOfAnother_12 : decode cX0_isSlotOfAnother 12 = .ok (.iload_n 2, 1) := by decide +kernel
theorem dX0_isSlotOfAnother_13 : decode cX0_isSlotOfAnother 13 = .ok (.if_icmp .eq 18, 3) := by decide +kernel
theorem dX0_isSlotOfAnother_16 : decode cX0_isSlotOfAnother 16 = .ok (.aload_n 0, 1) := by decide +kernel
theorem dX0_isSlotOfAnother_17 : decode cX0_isSlotOfAnother 17 = .ok (.getfield 11, 3) := by decide +kernel
theorem dX0_isSlotOfAnother_20 : decode cX0_isSlotOfAnother 20 = .ok (.iload_n 3, 1) := by decide +kernel
theorem dX0_isSlotOfAnother_21 : decode cX0_isSlotOfAnother 21 = .ok (.aaload, 1) := by decide +kernel
theorem dX0_isSlotOfAnother_22 : decode cX0_isSlotOfAnother 22 = .ok (.getfield 51, 3) := by decide +kernel
theorem dX0_isSlotOfAnother_25 : decode cX0_isSlotOfAnother 25 = .ok (.iload_n 1, 1) := by decide +kernel
theorem dX0_isSlotOfAnother_26 : decode cX0_isSlotOfAnother 26 = .ok (.if_icmp .ne 5, 3) := by decide +kernel
theorem dX0_isSlotOfAnother_29 : decode cX0_isSlotOfAnother 29 = .ok (.iconst 1, 1) := by decide +kernel
theorem dX0_isSlotOfAnother_30 : decode cX0_isSlotOfAnother 30 = .ok (.ireturn, 1) := by decide +kernel
theorem dX0_isSlotOfAnother_31 : decode cX0_isSlotOfAnother 31 = .ok (.iinc 3 1, 3) := by decide +kernel
theorem dX0_isSlotOfAnother_34 : decode cX0_isSlotOfAnother 34 = .ok (.goto (-32), 3) := by decide +kernel
theorem dX0_isSlotOfAnother_37 : decode cX0_isSlotOfAnother 37 = .ok (.iconst 0, 1) := by decide +kernel
theorem dX0_isSlotOfAnother_38 : decode cX0_isSlotOfAnother 38 = .ok (.ireturn, 1) := by decide +kernel
theorem dX0_thatAre_0 : decode cX0_thatAre 0 = .ok (.iconst 0, 1) := by decide +kernel
theorem dX0_thatAre_1 : decode cX0_thatAre 1 = .ok (.istore_n 2, 1) := by decide +kernel
theorem dX0_thatAre_2 : decode cX0_thatAre 2 = .ok (.iconst 0, 1) := by decide +kernel
theorem dX0_thatAre_3 : decode cX0_thatAre 3 = .ok (.istore_n 3, 1) := by decide +kernel
theorem dX0_thatAre_4 : decode cX0_thatAre 4 = .ok (.iload_n 3, 1) := by decide +kernel
theorem dX0_thatAre_5 : decode cX0_thatAre 5 = .ok (.aload_n 0, 1) := by decide +kernel
theorem dX0_thatAre_6 : decode cX0_thatAre 6 = .ok (.getfield 11, 3) := by decide +kernel
theorem dX0_thatAre_9 : decode cX0_thatAre 9 = .ok (.arraylength, 1) := by decide +kernel
theorem dX0_thatAre_10 : decode cX0_thatAre 10 = .ok (.if_icmp .ge 29, 3) := by decide +kernel
theorem dX0_thatAre_13 : decode cX0_thatAre 13 = .ok (.aload_n 0, 1) := by decide +kernel
theorem dX0_thatAre_14 : decode cX0_thatAre 14 = .ok (.getfield 11, 3) := by decide +kernel
theorem dX0_thatAre_17 : decode cX0_thatAre 17 = .ok (.iload_n 3, 1) := by decide +kernel
theorem dX0_thatAre_18 : decode cX0_thatAre 18 = .ok (.aaload, 1) := by decide +kernel
theorem dX0_thatAre_19 : decode cX0_thatAre 19 = .ok (.getfield 54, 3) := by decide +kernel
theorem dX0_thatAre_22 : decode cX0_thatAre 22 = .ok (.iload_n 1, 1) := by decide +kernel
theorem dX0_thatAre_23 : decode cX0_thatAre 23 = .ok (.if_icmp .ne 10, 3) := by decide +kernel
theorem dX0_thatAre_26 : decode cX0_thatAre 26 = .ok (.iload_n 2, 1) := by decide +kernel
theorem dX0_thatAre_27 : decode cX0_thatAre 27 = .ok (.iload_n 3, 1) := by decide +kernel
theorem dX0_thatAre_28 : decode cX0_thatAre 28 = .ok (.invokestatic 57, 3) := by decide +kernel
theorem dX0_thatAre_31 : decode cX0_thatAre 31 = .ok (.ior, 1) := by decide +kernel
theorem dX0_thatAre_32 : decode cX0_thatAre 32 = .ok (.istore_n 2, 1) := by decide +kernel
theorem dX0_thatAre_33 : decode cX0_thatAre 33 = .ok (.iinc 3 1, 3) := by decide +kernel
theorem dX0_thatAre_36 : decode cX0_thatAre 36 = .ok (.goto (-32), 3) := by decide +kernel
theorem dX0_thatAre_39 : decode cX0_thatAre 39 = .ok (.iload_n 2, 1) := by decide +kernel
theorem dX0_thatAre_40 : decode cX0_thatAre 40 = .ok (.ireturn, 1) := by decide +kernel
theorem dX0_awake_0 : decode cX0_awake 0 = .ok (.iconst 0, 1) := by decide +kernel
theorem dX0_awake_1 : decode cX0_awake 1 = .ok (.istore_n 1, 1) := by decide +kernel
theorem dX0_awake_2 : decode cX0_awake 2 = .ok (.iconst 0, 1) := by decide +kernel
theorem dX0_awake_3 : decode cX0_awake 3 = .ok (.istore_n 2, 1) := by decide +kernel
theorem dX0_awake_4 : decode cX0_awake 4 = .ok (.iload_n 2, 1) := by decide +kernel
theorem dX0_awake_5 : decode cX0_awake 5 = .ok (.aload_n 0, 1) := by decide +kernel
theorem dX0_awake_6 : decode cX0_awake 6 = .ok (.getfield 11, 3) := by decide +kernel
theorem dX0_awake_9 : decode cX0_awake 9 = .ok (.arraylength, 1) := by decide +kernel
theorem dX0_awake_10 : decode cX0_awake 10 = .ok (.if_icmp .ge 28, 3) := by decide +kernel
theorem dX0_awake_13 : decode cX0_awake 13 = .ok (.aload_n 0, 1) := by decide +kernel
theorem dX0_awake_14 : decode cX0_awake 14 = .ok (.getfield 11, 3) := by decide +kernel
theorem dX0_awake_17 : decode cX0_awake 17 = .ok (.iload_n 2, 1) := by decide +kernel
theorem dX0_awake_18 : decode cX0_awake 18 = .ok (.aaload, 1) := by decide +kernel
theorem dX0_awake_19 : decode cX0_awake 19 = .ok (.invokevirtual 61, 3) := by decide +kernel
theorem dX0_awake_22 : decode cX0_awake 22 = .ok (.ifCond .eq 10, 3) := by decide +kernel
theorem dX0_awake_25 : decode cX0_awake 25 = .ok (.iload_n 1, 1) := by decide +kernel
theorem dX0_awake_26 : decode cX0_awake 26 = .ok (.iload_n 2, 1) := by decide +kernel
theorem dX0_awake_27 : decode cX0_awake 27 = .ok (.invokestatic 57, 3) := by decide +kernel
theorem dX0_awake_30 : decode cX0_awake 30 = .ok (.ior, 1) := by decide +kernel
theorem dX0_awake_31 : decode cX0_awake 31 = .ok (.istore_n 1, 1) := by decide +kernel
theorem dX0_awake_32 : decode cX0_awake 32 = .ok (.iinc 2 1, 3) := by decide +kernel
theorem dX0_awake_35 : decode cX0_awake 35 = .ok (.goto (-31), 3) := by decide +kernel
theorem dX0_awake_38 : decode cX0_awake 38 = .ok (.iload_n 1, 1) := by decide +kernel
theorem dX0_awake_39 : decode cX0_awake 39 = .ok (.ireturn, 1) := by decide +kernel
theorem dX0_apart_0 : decode cX0_apart 0 = .ok (.iconst 0, 1) := by decide +kernel
theorem dX0_apart_1 : decode cX0_apart 1 = .ok (.istore_n 2, 1) := by decide +kernel
theorem dX0_apart_2 : decode cX0_apart 2 = .ok (.iconst 0, 1) := by decide +kernel
theorem dX0_apart_3 : decode cX0_apart 3 = .ok (.istore_n 3, 1) := by decide +kernel
theorem dX0_apart_4 : decode cX0_apart 4 = .ok (.iconst 0, 1) := by decide +kernel
theorem dX0_apart_5 : decode cX0_apart 5 = .ok (.istore 4, 2) := by decide +kernel
theorem dX0_apart_7 : decode cX0_apart 7 = .ok (.iconst 0, 1) := by decide +kernel
theorem dX0_apart_8 : decode cX0_apart 8 = .ok (.istore 5, 2) := by decide +kernel
theorem dX0_apart_10 : decode cX0_apart 10 = .ok (.iload 5, 2) := by decide +kernel
theorem dX0_apart_12 : decode cX0_apart 12 = .ok (.aload_n 0, 1) := by decide +kernel
theorem dX0_apart_13 : decode cX0_apart 13 = .ok (.getfield 11, 3) := by decide +kernel
theorem dX0_apart_16 : decode cX0_apart 16 = .ok (.arraylength, 1) := by decide +kernel
theorem dX0_apart_17 : decode cX0_apart 17 = .ok (.if_icmp .ge 66, 3) := by decide +kernel
theorem dX0_apart_20 : decode cX0_apart 20 = .ok (.iload_n 1, 1) := by decide +kernel
theorem dX0_apart_21 : decode cX0_apart 21 = .ok (.iload 5, 2) := by decide +kernel
theorem dX0_apart_23 : decode cX0_apart 23 = .ok (.invokestatic 65, 3) := by decide +kernel
theorem dX0_apart_26 : decode cX0_apart 26 = .ok (.ifCond .eq 51, 3) := by decide +kernel
theorem dX0_apart_29 : decode cX0_apart 29 = .ok (.aload_n 0, 1) := by decide +kernel
theorem dX0_apart_30 : decode cX0_apart 30 = .ok (.getfield 11, 3) := by decide +kernel
theorem dX0_apart_33 : decode cX0_apart 33 = .ok (.iload 5, 2) := by decide +kernel
theorem dX0_apart_35 : decode cX0_apart 35 = .ok (.aaload, 1) := by decide +kernel
theorem dX0_apart_36 : decode cX0_apart 36 = .ok (.getfield 69, 3) := by decide +kernel
theorem dX0_apart_39 : decode cX0_apart 39 = .ok (.istore 6, 2) := by decide +kernel
theorem dX0_apart_41 : decode cX0_apart 41 = .ok (.iload_n 2, 1) := by decide +kernel
theorem dX0_apart_42 : decode cX0_apart 42 = .ok (.ifCond .eq 12, 3) := by decide +kernel
theorem dX0_apart_45 : decode cX0_apart 45 = .ok (.iload_n 3, 1) := by decide +kernel
theorem dX0_apart_46 : decode cX0_apart 46 = .ok (.iload 6, 2) := by decide +kernel
theorem dX0_apart_48 : decode cX0_apart 48 = .ok (.invokestatic 72, 3) := by decide +kernel
theorem dX0_apart_51 : decode cX0_apart 51 = .ok (.goto 5, 3) := by decide +kernel
theorem dX0_apart_54 : decode cX0_apart 54 = .ok (.iload 6, 2) := by decide +kernel
theorem dX0_apart_56 : decode cX0_apart 56 = .ok (.istore_n 3, 1) := by decide +kernel
theorem dX0_apart_57 : decode cX0_apart 57 = .ok (.iload_n 2, 1) := by decide +kernel
theorem dX0_apart_58 : decode cX0_apart 58 = .ok (.ifCond .eq 13, 3) := by decide +kernel
theorem dX0_apart_61 : decode cX0_apart 61 = .ok (.iload 4, 2) := by decide +kernel
theorem dX0_apart_63 : decode cX0_apart 63 = .ok (.iload 6, 2) := by decide +kernel
theorem dX0_apart_65 : decode cX0_apart 65 = .ok (.invokestatic 78, 3) := by decide +kernel
theorem dX0_apart_68 : decode cX0_apart 68 = .ok (.goto 5, 3) := by decide +kernel
theorem dX0_apart_71 : decode cX0_apart 71 = .ok (.iload 6, 2) := by decide +kernel
theorem dX0_apart_73 : decode cX0_apart 73 = .ok (.istore 4, 2) := by decide +kernel
theorem dX0_apart_75 : decode cX0_apart 75 = .ok (.iconst 1, 1) := by decide +kernel
theorem dX0_apart_76 : decode cX0_apart 76 = .ok (.istore_n 2, 1) := by decide +kernel
theorem dX0_apart_77 : decode cX0_apart 77 = .ok (.iinc 5 1, 3) := by decide +kernel
theorem dX0_apart_80 : decode cX0_apart 80 = .ok (.goto (-70), 3) := by decide +kernel
theorem dX0_apart_83 : decode cX0_apart 83 = .ok (.iload 4, 2) := by decide +kernel
theorem dX0_apart_85 : decode cX0_apart 85 = .ok (.iload_n 3, 1) := by decide +kernel
theorem dX0_apart_86 : decode cX0_apart 86 = .ok (.isub, 1) := by decide +kernel
theorem dX0_apart_87 : decode cX0_apart 87 = .ok (.ireturn, 1) := by decide +kernel
theorem dX0_passCycle_0 : decode cX0_passCycle 0 = .ok (.aload_n 0, 1) := by decide +kernel
theorem dX0_passCycle_1 : decode cX0_passCycle 1 = .ok (.invokevirtual 81, 3) := by decide +kernel
theorem dX0_passCycle_4 : decode cX0_passCycle 4 = .ok (.istore_n 1, 1) := by decide +kernel
theorem dX0_passCycle_5 : decode cX0_passCycle 5 = .ok (.aload_n 0, 1) := by decide +kernel
theorem dX0_passCycle_6 : decode cX0_passCycle 6 = .ok (.invokevirtual 84, 3) := by decide +kernel
theorem dX0_passCycle_9 : decode cX0_passCycle 9 = .ok (.aload_n 0, 1) := by decide +kernel
theorem dX0_passCycle_10 : decode cX0_passCycle 10 = .ok (.invokevirtual 87, 3) := by decide +kernel
theorem dX0_passCycle_13 : decode cX0_passCycle 13 = .ok (.aload_n 0, 1) := by decide +kernel
theorem dX0_passCycle_14 : decode cX0_passCycle 14 = .ok (.iload_n 1, 1) := by decide +kernel
theorem dX0_passCycle_15 : decode cX0_passCycle 15 = .ok (.invokevirtual 90, 3) := by decide +kernel
theorem dX0_passCycle_18 : decode cX0_passCycle 18 = .ok (.aload_n 0, 1) := by decide +kernel
theorem dX0_passCycle_19 : decode cX0_passCycle 19 = .ok (.invokevirtual 94, 3) := by decide +kernel
theorem dX0_passCycle_22 : decode cX0_passCycle 22 = .ok (.aload_n 0, 1) := by decide +kernel
theorem dX0_passCycle_23 : decode cX0_passCycle 23 = .ok (.dup, 1) := by decide +kernel
theorem dX0_passCycle_24 : decode cX0_passCycle 24 = .ok (.getfield 35, 3) := by decide +kernel
theorem dX0_passCycle_27 : decode cX0_passCycle 27 = .ok (.iconst 1, 1) := by decide +kernel
theorem dX0_passCycle_28 : decode cX0_passCycle 28 = .ok (.iadd, 1) := by decide +kernel
theorem dX0_passCycle_29 : decode cX0_passCycle 29 = .ok (.putfield 35, 3) := by decide +kernel
theorem dX0_passCycle_32 : decode cX0_passCycle 32 = .ok (.return_, 1) := by decide +kernel
theorem dX0_isSignGiven_0 : decode cX0_isSignGiven 0 = .ok (.iconst 0, 1) := by decide +kernel
theorem dX0_isSignGiven_1 : decode cX0_isSignGiven 1 = .ok (.istore_n 1, 1) := by decide +kernel
theorem dX0_isSignGiven_2 : decode cX0_isSignGiven 2 = .ok (.iload_n 1, 1) := by decide +kernel
theorem dX0_isSignGiven_3 : decode cX0_isSignGiven 3 = .ok (.aload_n 0, 1) := by decide +kernel
theorem dX0_isSignGiven_4 : decode cX0_isSignGiven 4 = .ok (.getfield 11, 3) := by decide +kernel
theorem dX0_isSignGiven_7 : decode cX0_isSignGiven 7 = .ok (.arraylength, 1) := by decide +kernel
theorem dX0_isSignGiven_8 : decode cX0_isSignGiven 8 = .ok (.if_icmp .ge 23, 3) := by decide +kernel
theorem dX0_isSignGiven_11 : decode cX0_isSignGiven 11 = .ok (.aload_n 0, 1) := by decide +kernel
theorem dX0_isSignGiven_12 : decode cX0_isSignGiven 12 = .ok (.getfield 11, 3) := by decide +kernel
theorem dX0_isSignGiven_15 : decode cX0_isSignGiven 15 = .ok (.iload_n 1, 1) := by decide +kernel
theorem dX0_isSignGiven_16 : decode cX0_isSignGiven 16 = .ok (.aaload, 1) := by decide +kernel
theorem dX0_isSignGiven_17 : decode cX0_isSignGiven 17 = .ok (.invokevirtual 97, 3) := by decide +kernel
theorem dX0_isSignGiven_20 : decode cX0_isSignGiven 20 = .ok (.ifCond .eq 5, 3) := by decide +kernel
theorem dX0_isSignGiven_23 : decode cX0_isSignGiven 23 = .ok (.iconst 1, 1) := by decide +kernel
theorem dX0_isSignGiven_24 : decode cX0_isSignGiven 24 = .ok (.ireturn, 1) := by decide +kernel
theorem dX0_isSignGiven_25 : decode cX0_isSignGiven 25 = .ok (.iinc 1 1, 3) := by decide +kernel
theorem dX0_isSignGiven_28 : decode cX0_isSignGiven 28 = .ok (.goto (-26), 3) := by decide +kernel
theorem dX0_isSignGiven_31 : decode cX0_isSignGiven 31 = .ok (.iconst 0, 1) := by decide +kernel
theorem dX0_isSignGiven_32 : decode cX0_isSignGiven 32 = .ok (.ireturn, 1) := by decide +kernel
theorem dX0_chooseSenders_0 : decode cX0_chooseSenders 0 = .ok (.iconst 0, 1) := by decide +kernel
theorem dX0_chooseSenders_1 : decode cX0_chooseSenders 1 = .ok (.istore_n 1, 1) := by decide +kernel
theorem dX0_chooseSenders_2 : decode cX0_chooseSenders 2 = .ok (.iconst 0, 1) := by decide +kernel
theorem dX0_chooseSenders_3 : decode cX0_chooseSenders 3 = .ok (.istore_n 2, 1) := by decide +kernel
theorem dX0_chooseSenders_4 : decode cX0_chooseSenders 4 = .ok (.iload_n 2, 1) := by decide +kernel
theorem dX0_chooseSenders_5 : decode cX0_chooseSenders 5 = .ok (.aload_n 0, 1) := by decide +kernel
theorem dX0_chooseSenders_6 : decode cX0_chooseSenders 6 = .ok (.getfield 11, 3) := by decide +kernel
theorem dX0_chooseSenders_9 : decode cX0_chooseSenders 9 = .ok (.arraylength, 1) := by decide +kernel
theorem dX0_chooseSenders_10 : decode cX0_chooseSenders 10 = .ok (.if_icmp .ge 38, 3) := by decide +kernel
theorem dX0_chooseSenders_13 : decode cX0_chooseSenders 13 = .ok (.aload_n 0, 1) := by decide +kernel
theorem dX0_chooseSenders_14 : decode cX0_chooseSenders 14 = .ok (.getfield 11, 3) := by decide +kernel
theorem dX0_chooseSenders_17 : decode cX0_chooseSenders 17 = .ok (.iload_n 2, 1) := by decide +kernel
theorem dX0_chooseSenders_18 : decode cX0_chooseSenders 18 = .ok (.aaload, 1) := by decide +kernel
theorem dX0_chooseSenders_19 : decode cX0_chooseSenders 19 = .ok (.iconst 0, 1) := by decide +kernel
theorem dX0_chooseSenders_20 : decode cX0_chooseSenders 20 = .ok (.putfield 100, 3) := by decide +kernel
theorem dX0_chooseSenders_23 : decode cX0_chooseSenders 23 = .ok (.aload_n 0, 1) := by decide +kernel
theorem dX0_chooseSenders_24 : decode cX0_chooseSenders 24 = .ok (.getfield 11, 3) := by decide +kernel
theorem dX0_chooseSenders_27 : decode cX0_chooseSenders 27 = .ok (.iload_n 2, 1) := by decide +kernel
theorem dX0_chooseSenders_28 : decode cX0_chooseSenders 28 = .ok (.aaload, 1) := by decide +kernel
theorem dX0_chooseSenders_29 : decode cX0_chooseSenders 29 = .ok (.invokevirtual 104, 3) := by decide +kernel
theorem dX0_chooseSenders_32 : decode cX0_chooseSenders 32 = .ok (.ifCond .eq 10, 3) := by decide +kernel
theorem dX0_chooseSenders_35 : decode cX0_chooseSenders 35 = .ok (.iload_n 1, 1) := by decide +kernel
theorem dX0_chooseSenders_36 : decode cX0_chooseSenders 36 = .ok (.iload_n 2, 1) := by decide +kernel
theorem dX0_chooseSenders_37 : decode cX0_chooseSenders 37 = .ok (.invokestatic 57, 3) := by decide +kernel
theorem dX0_chooseSenders_40 : decode cX0_chooseSenders 40 = .ok (.ior, 1) := by decide +kernel
theorem dX0_chooseSenders_41 : decode cX0_chooseSenders 41 = .ok (.istore_n 1, 1) := by decide +kernel
theorem dX0_chooseSenders_42 : decode cX0_chooseSenders 42 = .ok (.iinc 2 1, 3) := by decide +kernel
theorem dX0_chooseSenders_45 : decode cX0_chooseSenders 45 = .ok (.goto (-41), 3) := by decide +kernel
theorem dX0_chooseSenders_48 : decode cX0_chooseSenders 48 = .ok (.aload_n 0, 1) := by decide +kernel
theorem dX0_chooseSenders_49 : decode cX0_chooseSenders 49 = .ok (.iload_n 1, 1) := by decide +kernel
theorem dX0_chooseSenders_50 : decode cX0_chooseSenders 50 = .ok (.aload_n 0, 1) := by decide +kernel
theorem dX0_chooseSenders_51 : decode cX0_chooseSenders 51 = .ok (.iload_n 1, 1) := by decide +kernel
theorem dX0_chooseSenders_52 : decode cX0_chooseSenders 52 = .ok (.invokevirtual 107, 3) := by decide +kernel
theorem dX0_chooseSenders_55 : decode cX0_chooseSenders 55 = .ok (.iconst (-1), 1) := by decide +kernel
theorem dX0_chooseSenders_56 : decode cX0_chooseSenders 56 = .ok (.ixor, 1) := by decide +kernel
theorem dX0_chooseSenders_57 : decode cX0_chooseSenders 57 = .ok (.iand, 1) := by decide +kernel
theorem dX0_chooseSenders_58 : decode cX0_chooseSenders 58 = .ok (.putfield 38, 3) := by decide +kernel
theorem dX0_chooseSenders_61 : decode cX0_chooseSenders 61 = .ok (.iconst 0, 1) := by decide +kernel
theorem dX0_chooseSenders_62 : decode cX0_chooseSenders 62 = .ok (.istore_n 2, 1) := by decide +kernel
theorem dX0_chooseSenders_63 : decode cX0_chooseSenders 63 = .ok (.iload_n 2, 1) := by decide +kernel
theorem dX0_chooseSenders_64 : decode cX0_chooseSenders 64 = .ok (.aload_n 0, 1) := by decide +kernel
theorem dX0_chooseSenders_65 : decode cX0_chooseSenders 65 = .ok (.getfield 11, 3) := by decide +kernel
theorem dX0_chooseSenders_68 : decode cX0_chooseSenders 68 = .ok (.arraylength, 1) := by decide +kernel
theorem dX0_chooseSenders_69 : decode cX0_chooseSenders 69 = .ok (.if_icmp .ge 56, 3) := by decide +kernel
theorem dX0_chooseSenders_72 : decode cX0_chooseSenders 72 = .ok (.aload_n 0, 1) := by decide +kernel
theorem dX0_chooseSenders_73 : decode cX0_chooseSenders 73 = .ok (.getfield 38, 3) := by decide +kernel
theorem dX0_chooseSenders_76 : decode cX0_chooseSenders 76 = .ok (.iload_n 2, 1) := by decide +kernel
theorem dX0_chooseSenders_77 : decode cX0_chooseSenders 77 = .ok (.invokestatic 65, 3) := by decide +kernel
theorem dX0_chooseSenders_80 : decode cX0_chooseSenders 80 = .ok (.ifCond .eq 21, 3) := by decide +kernel
theorem dX0_chooseSenders_83 : decode cX0_chooseSenders 83 = .ok (.aload_n 0, 1) := by decide +kernel
theorem dX0_chooseSenders_84 : decode cX0_chooseSenders 84 = .ok (.getfield 11, 3) := by decide +kernel
theorem dX0_chooseSenders_87 : decode cX0_chooseSenders 87 = .ok (.iload_n 2, 1) := by decide +kernel
theorem dX0_chooseSenders_88 : decode cX0_chooseSenders 88 = .ok (.aaload, 1) := by decide +kernel
theorem dX0_chooseSenders_89 : decode cX0_chooseSenders 89 = .ok (.dup, 1) := by decide +kernel
theorem dX0_chooseSenders_90 : decode cX0_chooseSenders 90 = .ok (.getfield 110, 3) := by decide +kernel
theorem dX0_chooseSenders_93 : decode cX0_chooseSenders 93 = .ok (.iconst 1, 1) := by decide +kernel
theorem dX0_chooseSenders_94 : decode cX0_chooseSenders 94 = .ok (.iadd, 1) := by decide +kernel
theorem dX0_chooseSenders_95 : decode cX0_chooseSenders 95 = .ok (.putfield 110, 3) := by decide +kernel
theorem dX0_chooseSenders_98 : decode cX0_chooseSenders 98 = .ok (.goto 21, 3) := by decide +kernel
theorem dX0_chooseSenders_101 : decode cX0_chooseSenders 101 = .ok (.iload_n 1, 1) := by decide +kernel
theorem dX0_chooseSenders_102 : decode cX0_chooseSenders 102 = .ok (.iload_n 2, 1) := by decide +kernel
theorem dX0_chooseSenders_103 : decode cX0_chooseSenders 103 = .ok (.invokestatic 65, 3) := by decide +kernel
theorem dX0_chooseSenders_106 : decode cX0_chooseSenders 106 = .ok (.ifCond .eq 13, 3) := by decide +kernel
theorem dX0_chooseSenders_109 : decode cX0_chooseSenders 109 = .ok (.aload_n 0, 1) := by decide +kernel
theorem dX0_chooseSenders_110 : decode cX0_chooseSenders 110 = .ok (.getfield 11, 3) := by decide +kernel
theorem dX0_chooseSenders_113 : decode cX0_chooseSenders 113 = .ok (.iload_n 2, 1) := by decide +kernel
theorem dX0_chooseSenders_114 : decode cX0_chooseSenders 114 = .ok (.aaload, 1) := by decide +kernel
theorem dX0_chooseSenders_115 : decode cX0_chooseSenders 115 = .ok (.iconst 1, 1) := by decide +kernel
theorem dX0_chooseSenders_116 : decode cX0_chooseSenders 116 = .ok (.invokevirtual 113, 3) := by decide +kernel
theorem dX0_chooseSenders_119 : decode cX0_chooseSenders 119 = .ok (.iinc 2 1, 3) := by decide +kernel
theorem dX0_chooseSenders_122 : decode cX0_chooseSenders 122 = .ok (.goto (-59), 3) := by decide +kernel
theorem dX0_chooseSenders_125 : decode cX0_chooseSenders 125 = .ok (.return_, 1) := by decide +kernel
theorem dX0_thatGiveWay_0 : decode cX0_thatGiveWay 0 = .ok (.iconst 0, 1) := by decide +kernel
theorem dX0_thatGiveWay_1 : decode cX0_thatGiveWay 1 = .ok (.istore_n 2, 1) := by decide +kernel
theorem dX0_thatGiveWay_2 : decode cX0_thatGiveWay 2 = .ok (.iconst 0, 1) := by decide +kernel
theorem dX0_thatGiveWay_3 : decode cX0_thatGiveWay 3 = .ok (.istore_n 3, 1) := by decide +kernel
theorem dX0_thatGiveWay_4 : decode cX0_thatGiveWay 4 = .ok (.iload_n 3, 1) := by decide +kernel
theorem dX0_thatGiveWay_5 : decode cX0_thatGiveWay 5 = .ok (.aload_n 0, 1) := by decide +kernel
theorem dX0_thatGiveWay_6 : decode cX0_thatGiveWay 6 = .ok (.getfield 11, 3) := by decide +kernel
theorem dX0_thatGiveWay_9 : decode cX0_thatGiveWay 9 = .ok (.arraylength, 1) := by decide +kernel
theorem dX0_thatGiveWay_10 : decode cX0_thatGiveWay 10 = .ok (.if_icmp .ge 51, 3) := by decide +kernel
theorem dX0_thatGiveWay_13 : decode cX0_thatGiveWay 13 = .ok (.iload_n 1, 1) := by decide +kernel
theorem dX0_thatGiveWay_14 : decode cX0_thatGiveWay 14 = .ok (.iload_n 3, 1) := by decide +kernel
theorem dX0_thatGiveWay_15 : decode cX0_thatGiveWay 15 = .ok (.invokestatic 65, 3) := by decide +kernel
theorem dX0_thatGiveWay_18 : decode cX0_thatGiveWay 18 = .ok (.ifCond .eq 37, 3) := by decide +kernel
theorem dX0_thatGiveWay_21 : decode cX0_thatGiveWay 21 = .ok (.aload_n 0, 1) := by decide +kernel
theorem dX0_thatGiveWay_22 : decode cX0_thatGiveWay 22 = .ok (.getfield 11, 3) := by decide +kernel
theorem dX0_thatGiveWay_25 : decode cX0_thatGiveWay 25 = .ok (.iload_n 3, 1) := by decide +kernel
theorem dX0_thatGiveWay_26 : decode cX0_thatGiveWay 26 = .ok (.aaload, 1) := by decide +kernel
theorem dX0_thatGiveWay_27 : decode cX0_thatGiveWay 27 = .ok (.invokevirtual 116, 3) := by decide +kernel
theorem dX0_thatGiveWay_30 : decode cX0_thatGiveWay 30 = .ok (.ifCond .eq 25, 3) := by decide +kernel
theorem dX0_thatGiveWay_33 : decode cX0_thatGiveWay 33 = .ok (.aload_n 0, 1) := by decide +kernel
theorem dX0_thatGiveWay_34 : decode cX0_thatGiveWay 34 = .ok (.aload_n 0, 1) := by decide +kernel
theorem dX0_thatGiveWay_35 : decode cX0_thatGiveWay 35 = .ok (.getfield 11, 3) := by decide +kernel
theorem dX0_thatGiveWay_38 : decode cX0_thatGiveWay 38 = .ok (.iload_n 3, 1) := by decide +kernel
theorem dX0_thatGiveWay_39 : decode cX0_thatGiveWay 39 = .ok (.aaload, 1) := by decide +kernel
theorem dX0_thatGiveWay_40 : decode cX0_thatGiveWay 40 = .ok (.iload_n 3, 1) := by decide +kernel
theorem dX0_thatGiveWay_41 : decode cX0_thatGiveWay 41 = .ok (.iload_n 1, 1) := by decide +kernel
theorem dX0_thatGiveWay_42 : decode cX0_thatGiveWay 42 = .ok (.invokevirtual 119, 3) := by decide +kernel
theorem dX0_thatGiveWay_45 : decode cX0_thatGiveWay 45 = .ok (.ifCond .eq 10, 3) := by decide +kernel
theorem dX0_thatGiveWay_48 : decode cX0_thatGiveWay 48 = .ok (.iload_n 2, 1) := by decide +kernel
theorem dX0_thatGiveWay_49 : decode cX0_thatGiveWay 49 = .ok (.iload_n 3, 1) := by decide +kernel
theorem dX0_thatGiveWay_50 : decode cX0_thatGiveWay 50 = .ok (.invokestatic 57, 3) := by decide +kernel
theorem dX0_thatGiveWay_53 : decode cX0_thatGiveWay 53 = .ok (.ior, 1) := by decide +kernel
theorem dX0_thatGiveWay_54 : decode cX0_thatGiveWay 54 = .ok (.istore_n 2, 1) := by decide +kernel
theorem dX0_thatGiveWay_55 : decode cX0_thatGiveWay 55 = .ok (.iinc 3 1, 3) := by decide +kernel
theorem dX0_thatGiveWay_58 : decode cX0_thatGiveWay 58 = .ok (.goto (-54), 3) := by decide +kernel
theorem dX0_thatGiveWay_61 : decode cX0_thatGiveWay 61 = .ok (.iload_n 2, 1) := by decide +kernel
theorem dX0_thatGiveWay_62 : decode cX0_thatGiveWay 62 = .ok (.ireturn, 1) := by decide +kernel
theorem dX0_givesWay_0 : decode cX0_givesWay 0 = .ok (.iconst 0, 1) := by decide +kernel
theorem dX0_givesWay_1 : decode cX0_givesWay 1 = .ok (.istore 4, 2) := by decide +kernel
theorem dX0_givesWay_3 : decode cX0_givesWay 3 = .ok (.iload 4, 2) := by decide +kernel
theorem dX0_givesWay_5 : decode cX0_givesWay 5 = .ok (.aload_n 0, 1) := by decide +kernel
theorem dX0_givesWay_6 : decode cX0_givesWay 6 = .ok (.getfield 11, 3) := by decide +kernel
theorem dX0_givesWay_9 : decode cX0_givesWay 9 = .ok (.arraylength, 1) := by decide +kernel
theorem dX0_givesWay_10 : decode cX0_givesWay 10 = .ok (.if_icmp .ge 56, 3) := by decide +kernel
theorem dX0_givesWay_13 : decode cX0_givesWay 13 = .ok (.iload 4, 2) := by decide +kernel
theorem dX0_givesWay_15 : decode cX0_givesWay 15 = .ok (.iload_n 2, 1) := by decide +kernel
theorem dX0_givesWay_16 : decode cX0_givesWay 16 = .ok (.if_icmp .eq 44, 3) := by decide +kernel
theorem dX0_givesWay_19 : decode cX0_givesWay 19 = .ok (.iload_n 3, 1) := by decide +kernel
theorem dX0_givesWay_20 : decode cX0_givesWay 20 = .ok (.iload 4, 2) := by decide +kernel
theorem dX0_givesWay_22 : decode cX0_givesWay 22 = .ok (.invokestatic 65, 3) := by decide +kernel
theorem dX0_givesWay_25 : decode cX0_givesWay 25 = .ok (.ifCond .eq 35, 3) := by decide +kernel
theorem dX0_givesWay_28 : decode cX0_givesWay 28 = .ok (.aload_n 0, 1) := by decide +kernel
theorem dX0_givesWay_29 : decode cX0_givesWay 29 = .ok (.getfield 11, 3) := by decide +kernel
theorem dX0_givesWay_32 : decode cX0_givesWay 32 = .ok (.iload 4, 2) := by decide +kernel
theorem dX0_givesWay_34 : decode cX0_givesWay 34 = .ok (.aaload, 1) := by decide +kernel
theorem dX0_givesWay_35 : decode cX0_givesWay 35 = .ok (.invokevirtual 116, 3) := by decide +kernel
theorem dX0_givesWay_38 : decode cX0_givesWay 38 = .ok (.ifCond .eq 20, 3) := by decide +kernel
theorem dX0_givesWay_41 : decode cX0_givesWay 41 = .ok (.aload_n 0, 1) := by decide +kernel
theorem dX0_givesWay_42 : decode cX0_givesWay 42 = .ok (.getfield 11, 3) := by decide +kernel
theorem dX0_givesWay_45 : decode cX0_givesWay 45 = .ok (.iload 4, 2) := by decide +kernel
theorem dX0_givesWay_47 : decode cX0_givesWay 47 = .ok (.aaload, 1) := by decide +kernel
theorem dX0_givesWay_48 : decode cX0_givesWay 48 = .ok (.getfield 51, 3) := by decide +kernel
theorem dX0_givesWay_51 : decode cX0_givesWay 51 = .ok (.aload_n 1, 1) := by decide +kernel
theorem dX0_givesWay_52 : decode cX0_givesWay 52 = .ok (.getfield 51, 3) := by decide +kernel
theorem dX0_givesWay_55 : decode cX0_givesWay 55 = .ok (.if_icmp .ge 5, 3) := by decide +kernel
theorem dX0_givesWay_58 : decode cX0_givesWay 58 = .ok (.iconst 1, 1) := by decide +kernel
theorem dX0_givesWay_59 : decode cX0_givesWay 59 = .ok (.ireturn, 1) := by decide +kernel
theorem dX0_givesWay_60 : decode cX0_givesWay 60 = .ok (.iinc 4 1, 3) := by decide +kernel
theorem dX0_givesWay_63 : decode cX0_givesWay 63 = .ok (.goto (-60), 3) := by decide +kernel
theorem dX0_givesWay_66 : decode cX0_givesWay 66 = .ok (.iconst 0, 1) := by decide +kernel
theorem dX0_givesWay_67 : decode cX0_givesWay 67 = .ok (.ireturn, 1) := by decide +kernel
theorem dX0_listen_0 : decode cX0_listen 0 = .ok (.iconst 0, 1) := by decide +kernel
theorem dX0_listen_1 : decode cX0_listen 1 = .ok (.istore_n 1, 1) := by decide +kernel
theorem dX0_listen_2 : decode cX0_listen 2 = .ok (.iload_n 1, 1) := by decide +kernel
theorem dX0_listen_3 : decode cX0_listen 3 = .ok (.aload_n 0, 1) := by decide +kernel
theorem dX0_listen_4 : decode cX0_listen 4 = .ok (.getfield 11, 3) := by decide +kernel
theorem dX0_listen_7 : decode cX0_listen 7 = .ok (.arraylength, 1) := by decide +kernel
theorem dX0_listen_8 : decode cX0_listen 8 = .ok (.if_icmp .ge 41, 3) := by decide +kernel
theorem dX0_listen_11 : decode cX0_listen 11 = .ok (.aload_n 0, 1) := by decide +kernel
theorem dX0_listen_12 : decode cX0_listen 12 = .ok (.getfield 11, 3) := by decide +kernel
theorem dX0_listen_15 : decode cX0_listen 15 = .ok (.iload_n 1, 1) := by decide +kernel
theorem dX0_listen_16 : decode cX0_listen 16 = .ok (.aaload, 1) := by decide +kernel
theorem dX0_listen_17 : decode cX0_listen 17 = .ok (.invokevirtual 123, 3) := by decide +kernel
theorem dX0_listen_20 : decode cX0_listen 20 = .ok (.aload_n 0, 1) := by decide +kernel
theorem dX0_listen_21 : decode cX0_listen 21 = .ok (.getfield 11, 3) := by decide +kernel
theorem dX0_listen_24 : decode cX0_listen 24 = .ok (.iload_n 1, 1) := by decide +kernel
theorem dX0_listen_25 : decode cX0_listen 25 = .ok (.aaload, 1) := by decide +kernel
theorem dX0_listen_26 : decode cX0_listen 26 = .ok (.invokevirtual 61, 3) := by decide +kernel
theorem dX0_listen_29 : decode cX0_listen 29 = .ok (.ifCond .eq 14, 3) := by decide +kernel
theorem dX0_listen_32 : decode cX0_listen 32 = .ok (.aload_n 0, 1) := by decide +kernel
theorem dX0_listen_33 : decode cX0_listen 33 = .ok (.aload_n 0, 1) := by decide +kernel
theorem dX0_listen_34 : decode cX0_listen 34 = .ok (.getfield 11, 3) := by decide +kernel
theorem dX0_listen_37 : decode cX0_listen 37 = .ok (.iload_n 1, 1) := by decide +kernel
theorem dX0_listen_38 : decode cX0_listen 38 = .ok (.aaload, 1) := by decide +kernel
theorem dX0_listen_39 : decode cX0_listen 39 = .ok (.iload_n 1, 1) := by decide +kernel
theorem dX0_listen_40 : decode cX0_listen 40 = .ok (.invokevirtual 126, 3) := by decide +kernel
theorem dX0_listen_43 : decode cX0_listen 43 = .ok (.iinc 1 1, 3) := by decide +kernel
theorem dX0_listen_46 : decode cX0_listen 46 = .ok (.goto (-44), 3) := by decide +kernel
theorem dX0_listen_49 : decode cX0_listen 49 = .ok (.return_, 1) := by decide +kernel
theorem dX0_hearOthers_0 : decode cX0_hearOthers 0 = .ok (.iconst 0, 1) := by decide +kernel
theorem dX0_hearOthers_1 : decode cX0_hearOthers 1 = .ok (.istore_n 3, 1) := by decide +kernel
theorem dX0_hearOthers_2 : decode cX0_hearOthers 2 = .ok (.iload_n 3, 1) := by decide +kernel
theorem dX0_hearOthers_3 : decode cX0_hearOthers 3 = .ok (.aload_n 0, 1) := by decide +kernel
theorem dX0_hearOthers_4 : decode cX0_hearOthers 4 = .ok (.getfield 11, 3) := by decide +kernel
theorem dX0_hearOthers_7 : decode cX0_hearOthers 7 = .ok (.arraylength, 1) := by decide +kernel
theorem dX0_hearOthers_8 : decode cX0_hearOthers 8 = .ok (.if_icmp .ge 43, 3) := by decide +kernel
theorem dX0_hearOthers_11 : decode cX0_hearOthers 11 = .ok (.iload_n 3, 1) := by decide +kernel
theorem dX0_hearOthers_12 : decode cX0_hearOthers 12 = .ok (.iload_n 2, 1) := by decide +kernel
theorem dX0_hearOthers_13 : decode cX0_hearOthers 13 = .ok (.if_icmp .eq 32, 3) := by decide +kernel
theorem dX0_hearOthers_16 : decode cX0_hearOthers 16 = .ok (.aload_n 0, 1) := by decide +kernel
theorem dX0_hearOthers_17 : decode cX0_hearOthers 17 = .ok (.getfield 38, 3) := by decide +kernel
theorem dX0_hearOthers_20 : decode cX0_hearOthers 20 = .ok (.iload_n 3, 1) := by decide +kernel
theorem dX0_hearOthers_21 : decode cX0_hearOthers 21 = .ok (.invokestatic 65, 3) := by decide +kernel
theorem dX0_hearOthers_24 : decode cX0_hearOthers 24 = .ok (.ifCond .eq 21, 3) := by decide +kernel
theorem dX0_hearOthers_27 : decode cX0_hearOthers 27 = .ok (.aload_n 1, 1) := by decide +kernel
theorem dX0_hearOthers_28 : decode cX0_hearOthers 28 = .ok (.getfield 130, 3) := by decide +kernel
theorem dX0_hearOthers_31 : decode cX0_hearOthers 31 = .ok (.iload_n 3, 1) := by decide +kernel
theorem dX0_hearOthers_32 : decode cX0_hearOthers 32 = .ok (.aload_n 0, 1) := by decide +kernel
theorem dX0_hearOthers_33 : decode cX0_hearOthers 33 = .ok (.getfield 11, 3) := by decide +kernel
theorem dX0_hearOthers_36 : decode cX0_hearOthers 36 = .ok (.iload_n 3, 1) := by decide +kernel
theorem dX0_hearOthers_37 : decode cX0_hearOthers 37 = .ok (.aaload, 1) := by decide +kernel
theorem dX0_hearOthers_38 : decode cX0_hearOthers 38 = .ok (.aload_n 1, 1) := by decide +kernel
theorem dX0_hearOthers_39 : decode cX0_hearOthers 39 = .ok (.getfield 69, 3) := by decide +kernel
theorem dX0_hearOthers_42 : decode cX0_hearOthers 42 = .ok (.invokevirtual 134, 3) := by decide +kernel
theorem dX0_hearOthers_45 : decode cX0_hearOthers 45 = .ok (.iinc 3 1, 3) := by decide +kernel
theorem dX0_hearOthers_48 : decode cX0_hearOthers 48 = .ok (.goto (-46), 3) := by decide +kernel
theorem dX0_hearOthers_51 : decode cX0_hearOthers 51 = .ok (.return_, 1) := by decide +kernel
theorem dX0_settle_0 : decode cX0_settle 0 = .ok (.aload_n 0, 1) := by decide +kernel
theorem dX0_settle_1 : decode cX0_settle 1 = .ok (.getfield 35, 3) := by decide +kernel
theorem dX0_settle_4 : decode cX0_settle 4 = .ok (.iconst 1, 1) := by decide +kernel
theorem dX0_settle_5 : decode cX0_settle 5 = .ok (.iand, 1) := by decide +kernel
theorem dX0_settle_6 : decode cX0_settle 6 = .ok (.iconst 1, 1) := by decide +kernel
theorem dX0_settle_7 : decode cX0_settle 7 = .ok (.if_icmp .ne 7, 3) := by decide +kernel
theorem dX0_settle_10 : decode cX0_settle 10 = .ok (.iconst 1, 1) := by decide +kernel
theorem dX0_settle_11 : decode cX0_settle 11 = .ok (.goto 4, 3) := by decide +kernel
theorem dX0_settle_14 : decode cX0_settle 14 = .ok (.iconst 0, 1) := by decide +kernel
theorem dX0_settle_15 : decode cX0_settle 15 = .ok (.istore_n 2, 1) := by decide +kernel
theorem dX0_settle_16 : decode cX0_settle 16 = .ok (.iconst 0, 1) := by decide +kernel
theorem dX0_settle_17 : decode cX0_settle 17 = .ok (.istore_n 3, 1) := by decide +kernel
theorem dX0_settle_18 : decode cX0_settle 18 = .ok (.iload_n 3, 1) := by decide +kernel
theorem dX0_settle_19 : decode cX0_settle 19 = .ok (.aload_n 0, 1) := by decide +kernel
theorem dX0_settle_20 : decode cX0_settle 20 = .ok (.getfield 11, 3) := by decide +kernel
theorem dX0_settle_23 : decode cX0_settle 23 = .ok (.arraylength, 1) := by decide +kernel
theorem dX0_settle_24 : decode cX0_settle 24 = .ok (.if_icmp .ge 111, 3) := by decide +kernel
theorem dX0_settle_27 : decode cX0_settle 27 = .ok (.aload_n 0, 1) := by decide +kernel
theorem dX0_settle_28 : decode cX0_settle 28 = .ok (.getfield 11, 3) := by decide +kernel
theorem dX0_settle_31 : decode cX0_settle 31 = .ok (.iload_n 3, 1) := by decide +kernel
theorem dX0_settle_32 : decode cX0_settle 32 = .ok (.aaload, 1) := by decide +kernel
theorem dX0_settle_33 : decode cX0_settle 33 = .ok (.astore 4, 2) := by decide +kernel
theorem dX0_settle_35 : decode cX0_settle 35 = .ok (.aload 4, 2) := by decide +kernel
theorem dX0_settle_37 : decode cX0_settle 37 = .ok (.getfield 100, 3) := by decide +kernel
theorem dX0_settle_40 : decode cX0_settle 40 = .ok (.ifCond .eq 20, 3) := by decide +kernel
theorem dX0_settle_43 : decode cX0_settle 43 = .ok (.aload_n 0, 1) := by decide +kernel
theorem dX0_settle_44 : decode cX0_settle 44 = .ok (.getfield 20, 3) := by decide +kernel
theorem dX0_settle_47 : decode cX0_settle 47 = .ok (.aload_n 0, 1) := by decide +kernel
theorem dX0_settle_48 : decode cX0_settle 48 = .ok (.getfield 35, 3) := by decide +kernel
theorem dX0_settle_51 : decode cX0_settle 51 = .ok (.iload_n 3, 1) := by decide +kernel
theorem dX0_settle_52 : decode cX0_settle 52 = .ok (.aload 4, 2) := by decide +kernel
theorem dX0_settle_54 : decode cX0_settle 54 = .ok (.getfield 54, 3) := by decide +kernel
theorem dX0_settle_57 : decode cX0_settle 57 = .ok (.invokevirtual 140, 3) := by decide +kernel
theorem dX0_settle_60 : decode cX0_settle 60 = .ok (.aload 4, 2) := by decide +kernel
theorem dX0_settle_62 : decode cX0_settle 62 = .ok (.getfield 54, 3) := by decide +kernel
theorem dX0_settle_65 : decode cX0_settle 65 = .ok (.istore 5, 2) := by decide +kernel
theorem dX0_settle_67 : decode cX0_settle 67 = .ok (.aload 4, 2) := by decide +kernel
theorem dX0_settle_69 : decode cX0_settle 69 = .ok (.iload_n 1, 1) := by decide +kernel
theorem dX0_settle_70 : decode cX0_settle 70 = .ok (.invokevirtual 144, 3) := by decide +kernel
theorem dX0_settle_73 : decode cX0_settle 73 = .ok (.iload_n 2, 1) := by decide +kernel
theorem dX0_settle_74 : decode cX0_settle 74 = .ok (.ifCond .eq 28, 3) := by decide +kernel
theorem dX0_settle_77 : decode cX0_settle 77 = .ok (.iload 5, 2) := by decide +kernel
theorem dX0_settle_79 : decode cX0_settle 79 = .ok (.iconst 4, 1) := by decide +kernel
theorem dX0_settle_80 : decode cX0_settle 80 = .ok (.if_icmp .eq 9, 3) := by decide +kernel
theorem dX0_settle_83 : decode cX0_settle 83 = .ok (.iload 5, 2) := by decide +kernel
theorem dX0_settle_85 : decode cX0_settle 85 = .ok (.iconst 5, 1) := by decide +kernel
theorem dX0_settle_86 : decode cX0_settle 86 = .ok (.if_icmp .ne 16, 3) := by decide +kernel
theorem dX0_settle_89 : decode cX0_settle 89 = .ok (.aload 4, 2) := by decide +kernel
theorem dX0_settle_91 : decode cX0_settle 91 = .ok (.aload_n 0, 1) := by decide +kernel
theorem dX0_settle_92 : decode cX0_settle 92 = .ok (.getfield 31, 3) := by decide +kernel
theorem dX0_settle_95 : decode cX0_settle 95 = .ok (.aload_n 0, 1) := by decide +kernel
theorem dX0_settle_96 : decode cX0_settle 96 = .ok (.getfield 27, 3) := by decide +kernel
theorem dX0_settle_99 : decode cX0_settle 99 = .ok (.invokevirtual 145, 3) := by decide +kernel
theorem dX0_settle_102 : decode cX0_settle 102 = .ok (.aload 4, 2) := by decide +kernel
theorem dX0_settle_104 : decode cX0_settle 104 = .ok (.getfield 54, 3) := by decide +kernel
theorem dX0_settle_107 : decode cX0_settle 107 = .ok (.iload 5, 2) := by decide +kernel
theorem dX0_settle_109 : decode cX0_settle 109 = .ok (.if_icmp .eq 20, 3) := by decide +kernel
theorem dX0_settle_112 : decode cX0_settle 112 = .ok (.aload_n 0, 1) := by decide +kernel
theorem dX0_settle_113 : decode cX0_settle 113 = .ok (.getfield 20, 3) := by decide +kernel
theorem dX0_settle_116 : decode cX0_settle 116 = .ok (.aload_n 0, 1) := by decide +kernel
theorem dX0_settle_117 : decode cX0_settle 117 = .ok (.getfield 35, 3) := by decide +kernel
theorem dX0_settle_120 : decode cX0_settle 120 = .ok (.iload_n 3, 1) := by decide +kernel
theorem dX0_settle_121 : decode cX0_settle 121 = .ok (.aload 4, 2) := by decide +kernel
theorem dX0_settle_123 : decode cX0_settle 123 = .ok (.getfield 54, 3) := by decide +kernel
theorem dX0_settle_126 : decode cX0_settle 126 = .ok (.invokevirtual 140, 3) := by decide +kernel
theorem dX0_settle_129 : decode cX0_settle 129 = .ok (.iinc 3 1, 3) := by decide +kernel
theorem dX0_settle_132 : decode cX0_settle 132 = .ok (.goto (-114), 3) := by decide +kernel
theorem dX0_settle_135 : decode cX0_settle 135 = .ok (.return_, 1) := by decide +kernel
theorem dX0_moveClocks_0 : decode cX0_moveClocks 0 = .ok (.iconst 0, 1) := by decide +kernel
theorem dX0_moveClocks_1 : decode cX0_moveClocks 1 = .ok (.istore_n 1, 1) := by decide +kernel
theorem dX0_moveClocks_2 : decode cX0_moveClocks 2 = .ok (.iload_n 1, 1) := by decide +kernel
theorem dX0_moveClocks_3 : decode cX0_moveClocks 3 = .ok (.aload_n 0, 1) := by decide +kernel
theorem dX0_moveClocks_4 : decode cX0_moveClocks 4 = .ok (.getfield 11, 3) := by decide +kernel
theorem dX0_moveClocks_7 : decode cX0_moveClocks 7 = .ok (.arraylength, 1) := by decide +kernel
theorem dX0_moveClocks_8 : decode cX0_moveClocks 8 = .ok (.if_icmp .ge 58, 3) := by decide +kernel
theorem dX0_moveClocks_11 : decode cX0_moveClocks 11 = .ok (.aload_n 0, 1) := by decide +kernel
theorem dX0_moveClocks_12 : decode cX0_moveClocks 12 = .ok (.getfield 11, 3) := by decide +kernel
theorem dX0_moveClocks_15 : decode cX0_moveClocks 15 = .ok (.iload_n 1, 1) := by decide +kernel
theorem dX0_moveClocks_16 : decode cX0_moveClocks 16 = .ok (.aaload, 1) := by decide +kernel
theorem dX0_moveClocks_17 : decode cX0_moveClocks 17 = .ok (.astore_n 2, 1) := by decide +kernel
theorem dX0_moveClocks_18 : decode cX0_moveClocks 18 = .ok (.aload_n 2, 1) := by decide +kernel
theorem dX0_moveClocks_19 : decode cX0_moveClocks 19 = .ok (.invokevirtual 61, 3) := by decide +kernel
theorem dX0_moveClocks_22 : decode cX0_moveClocks 22 = .ok (.ifCond .eq 21, 3) := by decide +kernel
theorem dX0_moveClocks_25 : decode cX0_moveClocks 25 = .ok (.aload_n 2, 1) := by decide +kernel
theorem dX0_moveClocks_26 : decode cX0_moveClocks 26 = .ok (.dup, 1) := by decide +kernel
theorem dX0_moveClocks_27 : decode cX0_moveClocks 27 = .ok (.getfield 69, 3) := by decide +kernel
theorem dX0_moveClocks_30 : decode cX0_moveClocks 30 = .ok (.aload_n 2, 1) := by decide +kernel
theorem dX0_moveClocks_31 : decode cX0_moveClocks 31 = .ok (.getfield 149, 3) := by decide +kernel
theorem dX0_moveClocks_34 : decode cX0_moveClocks 34 = .ok (.aload_n 2, 1) := by decide +kernel
theorem dX0_moveClocks_35 : decode cX0_moveClocks 35 = .ok (.getfield 152, 3) := by decide +kernel
theorem dX0_moveClocks_38 : decode cX0_moveClocks 38 = .ok (.iadd, 1) := by decide +kernel
theorem dX0_moveClocks_39 : decode cX0_moveClocks 39 = .ok (.iadd, 1) := by decide +kernel
theorem dX0_moveClocks_40 : decode cX0_moveClocks 40 = .ok (.putfield 69, 3) := by decide +kernel
theorem dX0_moveClocks_43 : decode cX0_moveClocks 43 = .ok (.aload_n 2, 1) := by decide +kernel
theorem dX0_moveClocks_44 : decode cX0_moveClocks 44 = .ok (.getfield 100, 3) := by decide +kernel
theorem dX0_moveClocks_47 : decode cX0_moveClocks 47 = .ok (.ifCond .ne 13, 3) := by decide +kernel
theorem dX0_moveClocks_50 : decode cX0_moveClocks 50 = .ok (.aload_n 2, 1) := by decide +kernel
theorem dX0_moveClocks_51 : decode cX0_moveClocks 51 = .ok (.dup, 1) := by decide +kernel
theorem dX0_moveClocks_52 : decode cX0_moveClocks 52 = .ok (.getfield 155, 3) := by decide +kernel
theorem dX0_moveClocks_55 : decode cX0_moveClocks 55 = .ok (.iconst 1, 1) := by decide +kernel
theorem dX0_moveClocks_56 : decode cX0_moveClocks 56 = .ok (.iadd, 1) := by decide +kernel
theorem dX0_moveClocks_57 : decode cX0_moveClocks 57 = .ok (.putfield 155, 3) := by decide +kernel
theorem dX0_moveClocks_60 : decode cX0_moveClocks 60 = .ok (.iinc 1 1, 3) := by decide +kernel
theorem dX0_moveClocks_63 : decode cX0_moveClocks 63 = .ok (.goto (-61), 3) := by decide +kernel
theorem dX0_moveClocks_66 : decode cX0_moveClocks 66 = .ok (.return_, 1) := by decide +kernel
theorem dX1_init_0 : decode cX1_init 0 = .ok (.aload_n 0, 1) := by decide +kernel
theorem dX1_init_1 : decode cX1_init 1 = .ok (.invokespecial 3, 3) := by decide +kernel
theorem dX1_init_4 : decode cX1_init 4 = .ok (.aload_n 0, 1) := by decide +kernel
theorem dX1_init_5 : decode cX1_init 5 = .ok (.iconst 0, 1) := by decide +kernel
theorem dX1_init_6 : decode cX1_init 6 = .ok (.putfield 9, 3) := by decide +kernel
theorem dX1_init_9 : decode cX1_init 9 = .ok (.aload_n 0, 1) := by decide +kernel
theorem dX1_init_10 : decode cX1_init 10 = .ok (.iconst 0, 1) := by decide +kernel
theorem dX1_init_11 : decode cX1_init 11 = .ok (.putfield 15, 3) := by decide +kernel
theorem dX1_init_14 : decode cX1_init 14 = .ok (.aload_n 0, 1) := by decide +kernel
theorem dX1_init_15 : decode cX1_init 15 = .ok (.bipush (-6), 2) := by decide +kernel
theorem dX1_init_17 : decode cX1_init 17 = .ok (.putfield 18, 3) := by decide +kernel
theorem dX1_init_20 : decode cX1_init 20 = .ok (.aload_n 0, 1) := by decide +kernel
theorem dX1_init_21 : decode cX1_init 21 = .ok (.iconst 0, 1) := by decide +kernel
theorem dX1_init_22 : decode cX1_init 22 = .ok (.putfield 21, 3) := by decide +kernel
theorem dX1_init_25 : decode cX1_init 25 = .ok (.aload_n 0, 1) := by decide +kernel
theorem dX1_init_26 : decode cX1_init 26 = .ok (.iconst 0, 1) := by decide +kernel
theorem dX1_init_27 : decode cX1_init 27 = .ok (.putfield 24, 3) := by decide +kernel
theorem dX1_init_30 : decode cX1_init 30 = .ok (.aload_n 0, 1) := by decide +kernel
theorem dX1_init_31 : decode cX1_init 31 = .ok (.iconst 0, 1) := by decide +kernel
theorem dX1_init_32 : decode cX1_init 32 = .ok (.putfield 27, 3) := by decide +kernel
theorem dX1_init_35 : decode cX1_init 35 = .ok (.aload_n 0, 1) := by decide +kernel
theorem dX1_init_36 : decode cX1_init 36 = .ok (.bipush 6, 2) := by decide +kernel
theorem dX1_init_38 : decode cX1_init 38 = .ok (.newarray .int, 2) := by decide +kernel
theorem dX1_init_40 : decode cX1_init 40 = .ok (.putfield 30, 3) := by decide +kernel
theorem dX1_init_43 : decode cX1_init 43 = .ok (.return_, 1) := by decide +kernel
theorem dX1_clear_0 : decode cX1_clear 0 = .ok (.aload_n 0, 1) := by decide +kernel
theorem dX1_clear_1 : decode cX1_clear 1 = .ok (.iconst 0, 1) := by decide +kernel
theorem dX1_clear_2 : decode cX1_clear 2 = .ok (.putfield 9, 3) := by decide +kernel
theorem dX1_clear_5 : decode cX1_clear 5 = .ok (.aload_n 0, 1) := by decide +kernel
theorem dX1_clear_6 : decode cX1_clear 6 = .ok (.iconst 0, 1) := by decide +kernel
theorem dX1_clear_7 : decode cX1_clear 7 = .ok (.putfield 15, 3) := by decide +kernel
theorem dX1_clear_10 : decode cX1_clear 10 = .ok (.aload_n 0, 1) := by decide +kernel
theorem dX1_clear_11 : decode cX1_clear 11 = .ok (.bipush (-6), 2) := by decide +kernel
theorem dX1_clear_13 : decode cX1_clear 13 = .ok (.putfield 18, 3) := by decide +kernel
theorem dX1_clear_16 : decode cX1_clear 16 = .ok (.return_, 1) := by decide +kernel
theorem dX1_copy_0 : decode cX1_copy 0 = .ok (.aload_n 0, 1) := by decide +kernel
theorem dX1_copy_1 : decode cX1_copy 1 = .ok (.aload_n 1, 1) := by decide +kernel
theorem dX1_copy_2 : decode cX1_copy 2 = .ok (.getfield 9, 3) := by decide +kernel
theorem dX1_copy_5 : decode cX1_copy 5 = .ok (.putfield 9, 3) := by decide +kernel
theorem dX1_copy_8 : decode cX1_copy 8 = .ok (.aload_n 0, 1) := by decide +kernel
theorem dX1_copy_9 : decode cX1_copy 9 = .ok (.aload_n 1, 1) := by decide +kernel
theorem dX1_copy_10 : decode cX1_copy 10 = .ok (.getfield 15, 3) := by decide +kernel
theorem dX1_copy_13 : decode cX1_copy 13 = .ok (.putfield 15, 3) := by decide +kernel
theorem dX1_copy_16 : decode cX1_copy 16 = .ok (.aload_n 0, 1) := by decide +kernel
theorem dX1_copy_17 : decode cX1_copy 17 = .ok (.aload_n 1, 1) := by decide +kernel
theorem dX1_copy_18 : decode cX1_copy 18 = .ok (.getfield 18, 3) := by decide +kernel
theorem dX1_copy_21 : decode cX1_copy 21 = .ok (.putfield 18, 3) := by decide +kernel
theorem dX1_copy_24 : decode cX1_copy 24 = .ok (.aload_n 0, 1) := by decide +kernel
theorem dX1_copy_25 : decode cX1_copy 25 = .ok (.aload_n 1, 1) := by decide +kernel
theorem dX1_copy_26 : decode cX1_copy 26 = .ok (.getfield 21, 3) := by decide +kernel
theorem dX1_copy_29 : decode cX1_copy 29 = .ok (.putfield 21, 3) := by decide +kernel
theorem dX1_copy_32 : decode cX1_copy 32 = .ok (.aload_n 0, 1) := by decide +kernel
theorem dX1_copy_33 : decode cX1_copy 33 = .ok (.aload_n 1, 1) := by decide +kernel
theorem dX1_copy_34 : decode cX1_copy 34 = .ok (.getfield 24, 3) := by decide +kernel
theorem dX1_copy_37 : decode cX1_copy 37 = .ok (.putfield 24, 3) := by decide +kernel
theorem dX1_copy_40 : decode cX1_copy 40 = .ok (.aload_n 0, 1) := by decide +kernel
theorem dX1_copy_41 : decode cX1_copy 41 = .ok (.aload_n 1, 1) := by decide +kernel
theorem dX1_copy_42 : decode cX1_copy 42 = .ok (.getfield 27, 3) := by decide +kernel
theorem dX1_copy_45 : decode cX1_copy 45 = .ok (.putfield 27, 3) := by decide +kernel
theorem dX1_copy_48 : decode cX1_copy 48 = .ok (.iconst 0, 1) := by decide +kernel
theorem dX1_copy_49 : decode cX1_copy 49 = .ok (.istore_n 2, 1) := by decide +kernel
theorem dX1_copy_50 : decode cX1_copy 50 = .ok (.iload_n 2, 1) := by decide +kernel
theorem dX1_copy_51 : decode cX1_copy 51 = .ok (.aload_n 0, 1) := by decide +kernel
theorem dX1_copy_52 : decode cX1_copy 52 = .ok (.getfield 30, 3) := by decide +kernel
theorem dX1_copy_55 : decode cX1_copy 55 = .ok (.arraylength, 1) := by decide +kernel
theorem dX1_copy_56 : decode cX1_copy 56 = .ok (.if_icmp .ge 30, 3) := by decide +kernel
theorem dX1_copy_59 : decode cX1_copy 59 = .ok (.iload_n 2, 1) := by decide +kernel
theorem dX1_copy_60 : decode cX1_copy 60 = .ok (.aload_n 1, 1) := by decide +kernel
theorem dX1_copy_61 : decode cX1_copy 61 = .ok (.getfield 30, 3) := by decide +kernel
theorem dX1_copy_64 : decode cX1_copy 64 = .ok (.arraylength, 1) := by decide +kernel
theorem dX1_copy_65 : decode cX1_copy 65 = .ok (.if_icmp .ge 21, 3) := by decide +kernel
theorem dX1_copy_68 : decode cX1_copy 68 = .ok (.aload_n 0, 1) := by decide +kernel
theorem dX1_copy_69 : decode cX1_copy 69 = .ok (.getfield 30, 3) := by decide +kernel
theorem dX1_copy_72 : decode cX1_copy 72 = .ok (.iload_n 2, 1) := by decide +kernel
theorem dX1_copy_73 : decode cX1_copy 73 = .ok (.aload_n 1, 1) := by decide +kernel
theorem dX1_copy_74 : decode cX1_copy 74 = .ok (.getfield 30, 3) := by decide +kernel
theorem dX1_copy_77 : decode cX1_copy 77 = .ok (.iload_n 2, 1) := by decide +kernel
theorem dX1_copy_78 : decode cX1_copy 78 = .ok (.iaload, 1) := by decide +kernel
theorem dX1_copy_79 : decode cX1_copy 79 = .ok (.iastore, 1) := by decide +kernel
theorem dX1_copy_80 : decode cX1_copy 80 = .ok (.iinc 2 1, 3) := by decide +kernel
theorem dX1_copy_83 : decode cX1_copy 83 = .ok (.goto (-33), 3) := by decide +kernel
theorem dX1_copy_86 : decode cX1_copy 86 = .ok (.return_, 1) := by decide +kernel
theorem dX1_note_0 : decode cX1_note 0 = .ok (.iload_n 1, 1) := by decide +kernel
theorem dX1_note_1 : decode cX1_note 1 = .ok (.ifCond .lt 12, 3) := by decide +kernel
theorem dX1_note_4 : decode cX1_note 4 = .ok (.iload_n 1, 1) := by decide +kernel
theorem dX1_note_5 : decode cX1_note 5 = .ok (.aload_n 0, 1) := by decide +kernel
theorem dX1_note_6 : decode cX1_note 6 = .ok (.getfield 30, 3) := by decide +kernel
theorem dX1_note_9 : decode cX1_note 9 = .ok (.arraylength, 1) := by decide +kernel
theorem dX1_note_10 : decode cX1_note 10 = .ok (.if_icmp .lt 4, 3) := by decide +kernel
theorem dX1_note_13 : decode cX1_note 13 = .ok (.return_, 1) := by decide +kernel
theorem dX1_note_14 : decode cX1_note 14 = .ok (.aload_n 2, 1) := by decide +kernel
theorem dX1_note_15 : decode cX1_note 15 = .ok (.getfield 34, 3) := by decide +kernel
theorem dX1_note_18 : decode cX1_note 18 = .ok (.aload_n 2, 1) := by decide +kernel
theorem dX1_note_19 : decode cX1_note 19 = .ok (.getfield 39, 3) := by decide +kernel
theorem dX1_note_22 : decode cX1_note 22 = .ok (.iadd, 1) := by decide +kernel
theorem dX1_note_23 : decode cX1_note 23 = .ok (.iload_n 3, 1) := by decide +kernel
theorem dX1_note_24 : decode cX1_note 24 = .ok (.isub, 1) := by decide +kernel
theorem dX1_note_25 : decode cX1_note 25 = .ok (.istore 4, 2) := by decide +kernel
theorem dX1_note_27 : decode cX1_note 27 = .ok (.aload_n 0, 1) := by decide +kernel
theorem dX1_note_28 : decode cX1_note 28 = .ok (.dup, 1) := by decide +kernel
theorem dX1_note_29 : decode cX1_note 29 = .ok (.getfield 9, 3) := by decide +kernel
theorem dX1_note_32 : decode cX1_note 32 = .ok (.iload_n 1, 1) := by decide +kernel
theorem dX1_note_33 : decode cX1_note 33 = .ok (.invokestatic 42, 3) := by decide +kernel
theorem dX1_note_36 : decode cX1_note 36 = .ok (.ior, 1) := by decide +kernel
theorem dX1_note_37 : decode cX1_note 37 = .ok (.putfield 9, 3) := by decide +kernel
theorem dX1_note_40 : decode cX1_note 40 = .ok (.aload_n 0, 1) := by decide +kernel
theorem dX1_note_41 : decode cX1_note 41 = .ok (.getfield 30, 3) := by decide +kernel
theorem dX1_note_44 : decode cX1_note 44 = .ok (.iload_n 1, 1) := by decide +kernel
theorem dX1_note_45 : decode cX1_note 45 = .ok (.iload 4, 2) := by decide +kernel
theorem dX1_note_47 : decode cX1_note 47 = .ok (.iastore, 1) := by decide +kernel
theorem dX1_note_48 : decode cX1_note 48 = .ok (.aload_n 2, 1) := by decide +kernel
theorem dX1_note_49 : decode cX1_note 49 = .ok (.getfield 46, 3) := by decide +kernel
theorem dX1_note_52 : decode cX1_note 52 = .ok (.iconst 1, 1) := by decide +kernel
theorem dX1_note_53 : decode cX1_note 53 = .ok (.if_icmp .ne 65, 3) := by decide +kernel
theorem dX1_note_56 : decode cX1_note 56 = .ok (.aload_n 0, 1) := by decide +kernel
theorem dX1_note_57 : decode cX1_note 57 = .ok (.dup, 1) := by decide +kernel
theorem dX1_note_58 : decode cX1_note 58 = .ok (.getfield 15, 3) := by decide +kernel
theorem dX1_note_61 : decode cX1_note 61 = .ok (.iconst 1, 1) := by decide +kernel
theorem dX1_note_62 : decode cX1_note 62 = .ok (.iadd, 1) := by decide +kernel
theorem dX1_note_63 : decode cX1_note 63 = .ok (.putfield 15, 3) := by decide +kernel
theorem dX1_note_66 : decode cX1_note 66 = .ok (.aload_n 0, 1) := by decide +kernel
theorem dX1_note_67 : decode cX1_note 67 = .ok (.getfield 18, 3) := by decide +kernel
theorem dX1_note_70 : decode cX1_note 70 = .ok (.bipush (-6), 2) := by decide +kernel
theorem dX1_note_72 : decode cX1_note 72 = .ok (.if_icmp .eq 14, 3) := by decide +kernel
theorem dX1_note_75 : decode cX1_note 75 = .ok (.aload_n 2, 1) := by decide +kernel
theorem dX1_note_76 : decode cX1_note 76 = .ok (.getfield 49, 3) := by decide +kernel
theorem dX1_note_79 : decode cX1_note 79 = .ok (.aload_n 0, 1) := by decide +kernel
theorem dX1_note_80 : decode cX1_note 80 = .ok (.getfield 21, 3) := by decide +kernel
theorem dX1_note_83 : decode cX1_note 83 = .ok (.if_icmp .ge 35, 3) := by decide +kernel
theorem dX1_note_86 : decode cX1_note 86 = .ok (.aload_n 0, 1) := by decide +kernel
theorem dX1_note_87 : decode cX1_note 87 = .ok (.iload_n 1, 1) := by decide +kernel
theorem dX1_note_88 : decode cX1_note 88 = .ok (.putfield 18, 3) := by decide +kernel
theorem dX1_note_91 : decode cX1_note 91 = .ok (.aload_n 0, 1) := by decide +kernel
theorem dX1_note_92 : decode cX1_note 92 = .ok (.aload_n 2, 1) := by decide +kernel
theorem dX1_note_93 : decode cX1_note 93 = .ok (.getfield 49, 3) := by decide +kernel
theorem dX1_note_96 : decode cX1_note 96 = .ok (.putfield 21, 3) := by decide +kernel
theorem dX1_note_99 : decode cX1_note 99 = .ok (.aload_n 0, 1) := by decide +kernel
theorem dX1_note_100 : decode cX1_note 100 = .ok (.iload 4, 2) := by decide +kernel
theorem dX1_note_102 : decode cX1_note 102 = .ok (.putfield 24, 3) := by decide +kernel
theorem dX1_note_105 : decode cX1_note 105 = .ok (.aload_n 0, 1) := by decide +kernel
theorem dX1_note_106 : decode cX1_note 106 = .ok (.aload_n 2, 1) := by decide +kernel
theorem dX1_note_107 : decode cX1_note 107 = .ok (.getfield 52, 3) := by decide +kernel
theorem dX1_note_110 : decode cX1_note 110 = .ok (.aload_n 2, 1) := by decide +kernel
theorem dX1_note_111 : decode cX1_note 111 = .ok (.getfield 55, 3) := by decide +kernel
theorem dX1_note_114 : decode cX1_note 114 = .ok (.iadd, 1) := by decide +kernel
theorem dX1_note_115 : decode cX1_note 115 = .ok (.putfield 27, 3) := by decide +kernel
theorem dX1_note_118 : decode cX1_note 118 = .ok (.return_, 1) := by decide +kernel
theorem dX1_trimOfSeen_0 : decode cX1_trimOfSeen 0 = .ok (.aload_n 1, 1) := by decide +kernel
theorem dX1_trimOfSeen_1 : decode cX1_trimOfSeen 1 = .ok (.invokevirtual 58, 3) := by decide +kernel
theorem dX1_trimOfSeen_4 : decode cX1_trimOfSeen 4 = .ok (.aload_n 1, 1) := by decide +kernel
theorem dX1_trimOfSeen_5 : decode cX1_trimOfSeen 5 = .ok (.iconst 0, 1) := by decide +kernel
theorem dX1_trimOfSeen_6 : decode cX1_trimOfSeen 6 = .ok (.invokevirtual 63, 3) := by decide +kernel
theorem dX1_trimOfSeen_9 : decode cX1_trimOfSeen 9 = .ok (.iconst 0, 1) := by decide +kernel
theorem dX1_trimOfSeen_10 : decode cX1_trimOfSeen 10 = .ok (.istore_n 2, 1) := by decide +kernel
theorem dX1_trimOfSeen_11 : decode cX1_trimOfSeen 11 = .ok (.iload_n 2, 1) := by decide +kernel
theorem dX1_trimOfSeen_12 : decode cX1_trimOfSeen 12 = .ok (.aload_n 0, 1) := by decide +kernel
theorem dX1_trimOfSeen_13 : decode cX1_trimOfSeen 13 = .ok (.getfield 30, 3) := by decide +kernel
theorem dX1_trimOfSeen_16 : decode cX1_trimOfSeen 16 = .ok (.arraylength, 1) := by decide +kernel
theorem dX1_trimOfSeen_17 : decode cX1_trimOfSeen 17 = .ok (.if_icmp .ge 30, 3) := by decide +kernel
theorem dX1_trimOfSeen_20 : decode cX1_trimOfSeen 20 = .ok (.aload_n 0, 1) := by decide +kernel
theorem dX1_trimOfSeen_21 : decode cX1_trimOfSeen 21 = .ok (.getfield 9, 3) := by decide +kernel
theorem dX1_trimOfSeen_24 : decode cX1_trimOfSeen 24 = .ok (.iload_n 2, 1) := by decide +kernel
theorem dX1_trimOfSeen_25 : decode cX1_trimOfSeen 25 = .ok (.invokestatic 67, 3) := by decide +kernel
theorem dX1_trimOfSeen_28 : decode cX1_trimOfSeen 28 = .ok (.ifCond .eq 13, 3) := by decide +kernel
theorem dX1_trimOfSeen_31 : decode cX1_trimOfSeen 31 = .ok (.aload_n 1, 1) := by decide +kernel
theorem dX1_trimOfSeen_32 : decode cX1_trimOfSeen 32 = .ok (.aload_n 0, 1) := by decide +kernel
theorem dX1_trimOfSeen_33 : decode cX1_trimOfSeen 33 = .ok (.getfield 30, 3) := by decide +kernel
theorem dX1_trimOfSeen_36 : decode cX1_trimOfSeen 36 = .ok (.iload_n 2, 1) := by decide +kernel
theorem dX1_trimOfSeen_37 : decode cX1_trimOfSeen 37 = .ok (.iaload, 1) := by decide +kernel
theorem dX1_trimOfSeen_38 : decode cX1_trimOfSeen 38 = .ok (.invokevirtual 63, 3) := by decide +kernel
theorem dX1_trimOfSeen_41 : decode cX1_trimOfSeen 41 = .ok (.iinc 2 1, 3) := by decide +kernel
theorem dX1_trimOfSeen_44 : decode cX1_trimOfSeen 44 = .ok (.goto (-33), 3) := by decide +kernel
theorem dX1_trimOfSeen_47 : decode cX1_trimOfSeen 47 = .ok (.aload_n 1, 1) := by decide +kernel
theorem dX1_trimOfSeen_48 : decode cX1_trimOfSeen 48 = .ok (.invokevirtual 71, 3) := by decide +kernel
theorem dX1_trimOfSeen_51 : decode cX1_trimOfSeen 51 = .ok (.ireturn, 1) := by decide +kernel
theorem dX1_trimOfMoves_0 : decode cX1_trimOfMoves 0 = .ok (.aload_n 2, 1) := by decide +kernel
theorem dX1_trimOfMoves_1 : decode cX1_trimOfMoves 1 = .ok (.invokevirtual 58, 3) := by decide +kernel
theorem dX1_trimOfMoves_4 : decode cX1_trimOfMoves 4 = .ok (.aload_n 2, 1) := by decide +kernel
theorem dX1_trimOfMoves_5 : decode cX1_trimOfMoves 5 = .ok (.iconst 0, 1) := by decide +kernel
theorem dX1_trimOfMoves_6 : decode cX1_trimOfMoves 6 = .ok (.invokevirtual 63, 3) := by decide +kernel
theorem dX1_trimOfMoves_9 : decode cX1_trimOfMoves 9 = .ok (.iconst 0, 1) := by decide +kernel
theorem dX1_trimOfMoves_10 : decode cX1_trimOfMoves 10 = .ok (.istore_n 3, 1) := by decide +kernel
theorem dX1_trimOfMoves_11 : decode cX1_trimOfMoves 11 = .ok (.iload_n 3, 1) := by decide +kernel
theorem dX1_trimOfMoves_12 : decode cX1_trimOfMoves 12 = .ok (.aload_n 0, 1) := by decide +kernel
theorem dX1_trimOfMoves_13 : decode cX1_trimOfMoves 13 = .ok (.getfield 30, 3) := by decide +kernel
theorem dX1_trimOfMoves_16 : decode cX1_trimOfMoves 16 = .ok (.arraylength, 1) := by decide +kernel
theorem dX1_trimOfMoves_17 : decode cX1_trimOfMoves 17 = .ok (.if_icmp .ge 51, 3) := by decide +kernel
theorem dX1_trimOfMoves_20 : decode cX1_trimOfMoves 20 = .ok (.iload_n 3, 1) := by decide +kernel
theorem dX1_trimOfMoves_21 : decode cX1_trimOfMoves 21 = .ok (.aload_n 1, 1) := by decide +kernel
theorem dX1_trimOfMoves_22 : decode cX1_trimOfMoves 22 = .ok (.getfield 30, 3) := by decide +kernel
theorem dX1_trimOfMoves_25 : decode cX1_trimOfMoves 25 = .ok (.arraylength, 1) := by decide +kernel
theorem dX1_trimOfMoves_26 : decode cX1_trimOfMoves 26 = .ok (.if_icmp .ge 42, 3) := by decide +kernel
theorem dX1_trimOfMoves_29 : decode cX1_trimOfMoves 29 = .ok (.aload_n 0, 1) := by decide +kernel
theorem dX1_trimOfMoves_30 : decode cX1_trimOfMoves 30 = .ok (.getfield 9, 3) := by decide +kernel
theorem dX1_trimOfMoves_33 : decode cX1_trimOfMoves 33 = .ok (.aload_n 1, 1) := by decide +kernel
theorem dX1_trimOfMoves_34 : decode cX1_trimOfMoves 34 = .ok (.getfield 9, 3) := by decide +kernel
theorem dX1_trimOfMoves_37 : decode cX1_trimOfMoves 37 = .ok (.iand, 1) := by decide +kernel
theorem dX1_trimOfMoves_38 : decode cX1_trimOfMoves 38 = .ok (.iload_n 3, 1) := by decide +kernel
theorem dX1_trimOfMoves_39 : decode cX1_trimOfMoves 39 = .ok (.invokestatic 67, 3) := by decide +kernel
theorem dX1_trimOfMoves_42 : decode cX1_trimOfMoves 42 = .ok (.ifCond .eq 20, 3) := by decide +kernel
theorem dX1_trimOfMoves_45 : decode cX1_trimOfMoves 45 = .ok (.aload_n 2, 1) := by decide +kernel
theorem dX1_trimOfMoves_46 : decode cX1_trimOfMoves 46 = .ok (.aload_n 0, 1) := by decide +kernel
theorem dX1_trimOfMoves_47 : decode cX1_trimOfMoves 47 = .ok (.getfield 30, 3) := by decide +kernel
theorem dX1_trimOfMoves_50 : decode cX1_trimOfMoves 50 = .ok (.iload_n 3, 1) := by decide +kernel
theorem dX1_trimOfMoves_51 : decode cX1_trimOfMoves 51 = .ok (.iaload, 1) := by decide +kernel
theorem dX1_trimOfMoves_52 : decode cX1_trimOfMoves 52 = .ok (.aload_n 1, 1) := by decide +kernel
theorem dX1_trimOfMoves_53 : decode cX1_trimOfMoves 53 = .ok (.getfield 30, 3) := by decide +kernel
theorem dX1_trimOfMoves_56 : decode cX1_trimOfMoves 56 = .ok (.iload_n 3, 1) := by decide +kernel
theorem dX1_trimOfMoves_57 : decode cX1_trimOfMoves 57 = .ok (.iaload, 1) := by decide +kernel
theorem dX1_trimOfMoves_58 : decode cX1_trimOfMoves 58 = .ok (.isub, 1) := by decide +kernel
theorem dX1_trimOfMoves_59 : decode cX1_trimOfMoves 59 = .ok (.invokevirtual 63, 3) := by decide +kernel
theorem dX1_trimOfMoves_62 : decode cX1_trimOfMoves 62 = .ok (.iinc 3 1, 3) := by decide +kernel
theorem dX1_trimOfMoves_65 : decode cX1_trimOfMoves 65 = .ok (.goto (-54), 3) := by decide +kernel
theorem dX1_trimOfMoves_68 : decode cX1_trimOfMoves 68 = .ok (.aload_n 2, 1) := by decide +kernel
theorem dX1_trimOfMoves_69 : decode cX1_trimOfMoves 69 = .ok (.invokevirtual 71, 3) := by decide +kernel
theorem dX1_trimOfMoves_72 : decode cX1_trimOfMoves 72 = .ok (.ireturn, 1) := by decide +kernel
theorem dX2_init_0 : decode cX2_init 0 = .ok (.aload_n 0, 1) := by decide +kernel
theorem dX2_init_1 : decode cX2_init 1 = .ok (.invokespecial 3, 3) := by decide +kernel
theorem dX2_init_4 : decode cX2_init 4 = .ok (.aload_n 0, 1) := by decide +kernel
theorem dX2_init_5 : decode cX2_init 5 = .ok (.bipush 40, 2) := by decide +kernel
theorem dX2_init_7 : decode cX2_init 7 = .ok (.newarray .int, 2) := by decide +kernel
theorem dX2_init_9 : decode cX2_init 9 = .ok (.putfield 9, 3) := by decide +kernel
theorem dX2_init_12 : decode cX2_init 12 = .ok (.aload_n 0, 1) := by decide +kernel
theorem dX2_init_13 : decode cX2_init 13 = .ok (.bipush 40, 2) := by decide +kernel
theorem dX2_init_15 : decode cX2_init 15 = .ok (.newarray .int, 2) := by decide +kernel
theorem dX2_init_17 : decode cX2_init 17 = .ok (.putfield 15, 3) := by decide +kernel
theorem dX2_init_20 : decode cX2_init 20 = .ok (.aload_n 0, 1) := by decide +kernel
theorem dX2_init_21 : decode cX2_init 21 = .ok (.bipush 40, 2) := by decide +kernel
theorem dX2_init_23 : decode cX2_init 23 = .ok (.newarray .int, 2) := by decide +kernel
theorem dX2_init_25 : decode cX2_init 25 = .ok (.putfield 18, 3) := by decide +kernel
theorem dX2_init_28 : decode cX2_init 28 = .ok (.aload_n 0, 1) := by decide +kernel
theorem dX2_init_29 : decode cX2_init 29 = .ok (.iconst 0, 1) := by decide +kernel
theorem dX2_init_30 : decode cX2_init 30 = .ok (.putfield 21, 3) := by decide +kernel
theorem dX2_init_33 : decode cX2_init 33 = .ok (.aload_n 0, 1) := by decide +kernel
theorem dX2_init_34 : decode cX2_init 34 = .ok (.iconst 0, 1) := by decide +kernel
theorem dX2_init_35 : decode cX2_init 35 = .ok (.putfield 25, 3) := by decide +kernel
theorem dX2_init_38 : decode cX2_init 38 = .ok (.return_, 1) := by decide +kernel
theorem dX2_copy_0 : decode cX2_copy 0 = .ok (.iconst 0, 1) := by decide +kernel
theorem dX2_copy_1 : decode cX2_copy 1 = .ok (.istore_n 2, 1) := by decide +kernel
theorem dX2_copy_2 : decode cX2_copy 2 = .ok (.iload_n 2, 1) := by decide +kernel
theorem dX2_copy_3 : decode cX2_copy 3 = .ok (.bipush 40, 2) := by decide +kernel
theorem dX2_copy_5 : decode cX2_copy 5 = .ok (.if_icmp .ge 45, 3) := by decide +kernel
theorem dX2_copy_8 : decode cX2_copy 8 = .ok (.aload_n 0, 1) := by decide +kernel
theorem dX2_copy_9 : decode cX2_copy 9 = .ok (.getfield 9, 3) := by decide +kernel
theorem dX2_copy_12 : decode cX2_copy 12 = .ok (.iload_n 2, 1) := by decide +kernel
theorem dX2_copy_13 : decode cX2_copy 13 = .ok (.aload_n 1, 1) := by decide +kernel
theorem dX2_copy_14 : decode cX2_copy 14 = .ok (.getfield 9, 3) := by decide +kernel
theorem dX2_copy_17 : decode cX2_copy 17 = .ok (.iload_n 2, 1) := by decide +kernel
theorem dX2_copy_18 : decode cX2_copy 18 = .ok (.iaload, 1) := by decide +kernel
theorem dX2_copy_19 : decode cX2_copy 19 = .ok (.iastore, 1) := by decide +kernel
theorem dX2_copy_20 : decode cX2_copy 20 = .ok (.aload_n 0, 1) := by decide +kernel
theorem dX2_copy_21 : decode cX2_copy 21 = .ok (.getfield 15, 3) := by decide +kernel
theorem dX2_copy_24 : decode cX2_copy 24 = .ok (.iload_n 2, 1) := by decide +kernel
theorem dX2_copy_25 : decode cX2_copy 25 = .ok (.aload_n 1, 1) := by decide +kernel
theorem dX2_copy_26 : decode cX2_copy 26 = .ok (.getfield 15, 3) := by decide +kernel
theorem dX2_copy_29 : decode cX2_copy 29 = .ok (.iload_n 2, 1) := by decide +kernel
theorem dX2_copy_30 : decode cX2_copy 30 = .ok (.iaload, 1) := by decide +kernel
theorem dX2_copy_31 : decode cX2_copy 31 = .ok (.iastore, 1) := by decide +kernel
theorem dX2_copy_32 : decode cX2_copy 32 = .ok (.aload_n 0, 1) := by decide +kernel
theorem dX2_copy_33 : decode cX2_copy 33 = .ok (.getfield 18, 3) := by decide +kernel
theorem dX2_copy_36 : decode cX2_copy 36 = .ok (.iload_n 2, 1) := by decide +kernel
theorem dX2_copy_37 : decode cX2_copy 37 = .ok (.aload_n 1, 1) := by decide +kernel
theorem dX2_copy_38 : decode cX2_copy 38 = .ok (.getfield 18, 3) := by decide +kernel
theorem dX2_copy_41 : decode cX2_copy 41 = .ok (.iload_n 2, 1) := by decide +kernel
theorem dX2_copy_42 : decode cX2_copy 42 = .ok (.iaload, 1) := by decide +kernel
theorem dX2_copy_43 : decode cX2_copy 43 = .ok (.iastore, 1) := by decide +kernel
theorem dX2_copy_44 : decode cX2_copy 44 = .ok (.iinc 2 1, 3) := by decide +kernel
theorem dX2_copy_47 : decode cX2_copy 47 = .ok (.goto (-45), 3) := by decide +kernel
theorem dX2_copy_50 : decode cX2_copy 50 = .ok (.aload_n 0, 1) := by decide +kernel
theorem dX2_copy_51 : decode cX2_copy 51 = .ok (.aload_n 1, 1) := by decide +kernel
theorem dX2_copy_52 : decode cX2_copy 52 = .ok (.getfield 21, 3) := by decide +kernel
theorem dX2_copy_55 : decode cX2_copy 55 = .ok (.putfield 21, 3) := by decide +kernel
theorem dX2_copy_58 : decode cX2_copy 58 = .ok (.aload_n 0, 1) := by decide +kernel
theorem dX2_copy_59 : decode cX2_copy 59 = .ok (.aload_n 1, 1) := by decide +kernel
theorem dX2_copy_60 : decode cX2_copy 60 = .ok (.getfield 25, 3) := by decide +kernel
theorem dX2_copy_63 : decode cX2_copy 63 = .ok (.putfield 25, 3) := by decide +kernel
theorem dX2_copy_66 : decode cX2_copy 66 = .ok (.return_, 1) := by decide +kernel
theorem dX2_add_0 : decode cX2_add 0 = .ok (.aload_n 0, 1) := by decide +kernel
theorem dX2_add_1 : decode cX2_add 1 = .ok (.getfield 25, 3) := by decide +kernel
theorem dX2_add_4 : decode cX2_add 4 = .ok (.aload_n 0, 1) := by decide +kernel
theorem dX2_add_5 : decode cX2_add 5 = .ok (.getfield 21, 3) := by decide +kernel
theorem dX2_add_8 : decode cX2_add 8 = .ok (.iadd, 1) := by decide +kernel
theorem dX2_add_9 : decode cX2_add 9 = .ok (.bipush 40, 2) := by decide +kernel
theorem dX2_add_11 : decode cX2_add 11 = .ok (.irem, 1) := by decide +kernel
theorem dX2_add_12 : decode cX2_add 12 = .ok (.istore 4, 2) := by decide +kernel
theorem dX2_add_14 : decode cX2_add 14 = .ok (.aload_n 0, 1) := by decide +kernel
theorem dX2_add_15 : decode cX2_add 15 = .ok (.getfield 9, 3) := by decide +kernel
theorem dX2_add_18 : decode cX2_add 18 = .ok (.iload 4, 2) := by decide +kernel
theorem dX2_add_20 : decode cX2_add 20 = .ok (.iload_n 1, 1) := by decide +kernel
theorem dX2_add_21 : decode cX2_add 21 = .ok (.iastore, 1) := by decide +kernel
theorem dX2_add_22 : decode cX2_add 22 = .ok (.aload_n 0, 1) := by decide +kernel
theorem dX2_add_23 : decode cX2_add 23 = .ok (.getfield 15, 3) := by decide +kernel
theorem dX2_add_26 : decode cX2_add 26 = .ok (.iload 4, 2) := by decide +kernel
theorem dX2_add_28 : decode cX2_add 28 = .ok (.iload_n 2, 1) := by decide +kernel
theorem dX2_add_29 : decode cX2_add 29 = .ok (.iastore, 1) := by decide +kernel
theorem dX2_add_30 : decode cX2_add 30 = .ok (.aload_n 0, 1) := by decide +kernel
theorem dX2_add_31 : decode cX2_add 31 = .ok (.getfield 18, 3) := by decide +kernel
theorem dX2_add_34 : decode cX2_add 34 = .ok (.iload 4, 2) := by decide +kernel
theorem dX2_add_36 : decode cX2_add 36 = .ok (.iload_n 3, 1) := by decide +kernel
theorem dX2_add_37 : decode cX2_add 37 = .ok (.iastore, 1) := by decide +kernel
theorem dX2_add_38 : decode cX2_add 38 = .ok (.aload_n 0, 1) := by decide +kernel
theorem dX2_add_39 : decode cX2_add 39 = .ok (.getfield 21, 3) := by decide +kernel
theorem dX2_add_42 : decode cX2_add 42 = .ok (.bipush 40, 2) := by decide +kernel
theorem dX2_add_44 : decode cX2_add 44 = .ok (.if_icmp .ge 16, 3) := by decide +kernel
theorem dX2_add_47 : decode cX2_add 47 = .ok (.aload_n 0, 1) := by decide +kernel
theorem dX2_add_48 : decode cX2_add 48 = .ok (.dup, 1) := by decide +kernel
theorem dX2_add_49 : decode cX2_add 49 = .ok (.getfield 21, 3) := by decide +kernel
theorem dX2_add_52 : decode cX2_add 52 = .ok (.iconst 1, 1) := by decide +kernel
theorem dX2_add_53 : decode cX2_add 53 = .ok (.iadd, 1) := by decide +kernel
theorem dX2_add_54 : decode cX2_add 54 = .ok (.putfield 21, 3) := by decide +kernel
theorem dX2_add_57 : decode cX2_add 57 = .ok (.goto 16, 3) := by decide +kernel
theorem dX2_add_60 : decode cX2_add 60 = .ok (.aload_n 0, 1) := by decide +kernel
theorem dX2_add_61 : decode cX2_add 61 = .ok (.aload_n 0, 1) := by decide +kernel
theorem dX2_add_62 : decode cX2_add 62 = .ok (.getfield 25, 3) := by decide +kernel
theorem dX2_add_65 : decode cX2_add 65 = .ok (.iconst 1, 1) := by decide +kernel
theorem dX2_add_66 : decode cX2_add 66 = .ok (.iadd, 1) := by decide +kernel
theorem dX2_add_67 : decode cX2_add 67 = .ok (.bipush 40, 2) := by decide +kernel
theorem dX2_add_69 : decode cX2_add 69 = .ok (.irem, 1) := by decide +kernel
theorem dX2_add_70 : decode cX2_add 70 = .ok (.putfield 25, 3) := by decide +kernel
theorem dX2_add_73 : decode cX2_add 73 = .ok (.return_, 1) := by decide +kernel
theorem dX2_placeOf_0 : decode cX2_placeOf 0 = .ok (.iload_n 1, 1) := by decide +kernel
theorem dX2_placeOf_1 : decode cX2_placeOf 1 = .ok (.ifCond .lt 23, 3) := by decide +kernel
theorem dX2_placeOf_4 : decode cX2_placeOf 4 = .ok (.iload_n 1, 1) := by decide +kernel
theorem dX2_placeOf_5 : decode cX2_placeOf 5 = .ok (.aload_n 0, 1) := by decide +kernel
theorem dX2_placeOf_6 : decode cX2_placeOf 6 = .ok (.getfield 21, 3) := by decide +kernel
theorem dX2_placeOf_9 : decode cX2_placeOf 9 = .ok (.if_icmp .ge 15, 3) := by decide +kernel
theorem dX2_placeOf_12 : decode cX2_placeOf 12 = .ok (.aload_n 0, 1) := by decide +kernel
theorem dX2_placeOf_13 : decode cX2_placeOf 13 = .ok (.getfield 25, 3) := by decide +kernel
theorem dX2_placeOf_16 : decode cX2_placeOf 16 = .ok (.iload_n 1, 1) := by decide +kernel
theorem dX2_placeOf_17 : decode cX2_placeOf 17 = .ok (.iadd, 1) := by decide +kernel
theorem dX2_placeOf_18 : decode cX2_placeOf 18 = .ok (.bipush 40, 2) := by decide +kernel
theorem dX2_placeOf_20 : decode cX2_placeOf 20 = .ok (.irem, 1) := by decide +kernel
theorem dX2_placeOf_21 : decode cX2_placeOf 21 = .ok (.goto 4, 3) := by decide +kernel
theorem dX2_placeOf_24 : decode cX2_placeOf 24 = .ok (.iconst (-1), 1) := by decide +kernel
theorem dX2_placeOf_25 : decode cX2_placeOf 25 = .ok (.ireturn, 1) := by decide +kernel
theorem dX3_init_0 : decode cX3_init 0 = .ok (.aload_n 0, 1) := by decide +kernel
theorem dX3_init_1 : decode cX3_init 1 = .ok (.invokespecial 3, 3) := by decide +kernel
theorem dX3_init_4 : decode cX3_init 4 = .ok (.aload_n 0, 1) := by decide +kernel
theorem dX3_init_5 : decode cX3_init 5 = .ok (.iconst 3, 1) := by decide +kernel
theorem dX3_init_6 : decode cX3_init 6 = .ok (.putfield 9, 3) := by decide +kernel
theorem dX3_init_9 : decode cX3_init 9 = .ok (.aload_n 0, 1) := by decide +kernel
theorem dX3_init_10 : decode cX3_init 10 = .ok (.iconst 0, 1) := by decide +kernel
theorem dX3_init_11 : decode cX3_init 11 = .ok (.putfield 15, 3) := by decide +kernel
theorem dX3_init_14 : decode cX3_init 14 = .ok (.aload_n 0, 1) := by decide +kernel
theorem dX3_init_15 : decode cX3_init 15 = .ok (.iconst 0, 1) := by decide +kernel
theorem dX3_init_16 : decode cX3_init 16 = .ok (.putfield 18, 3) := by decide +kernel
theorem dX3_init_19 : decode cX3_init 19 = .ok (.aload_n 0, 1) := by decide +kernel
theorem dX3_init_20 : decode cX3_init 20 = .ok (.iconst 0, 1) := by decide +kernel
theorem dX3_init_21 : decode cX3_init 21 = .ok (.putfield 21, 3) := by decide +kernel
theorem dX3_init_24 : decode cX3_init 24 = .ok (.aload_n 0, 1) := by decide +kernel
theorem dX3_init_25 : decode cX3_init 25 = .ok (.iconst 0, 1) := by decide +kernel
theorem dX3_init_26 : decode cX3_init 26 = .ok (.putfield 24, 3) := by decide +kernel
theorem dX3_init_29 : decode cX3_init 29 = .ok (.aload_n 0, 1) := by decide +kernel
theorem dX3_init_30 : decode cX3_init 30 = .ok (.iconst 0, 1) := by decide +kernel
theorem dX3_init_31 : decode cX3_init 31 = .ok (.putfield 28, 3) := by decide +kernel
theorem dX3_init_34 : decode cX3_init 34 = .ok (.aload_n 0, 1) := by decide +kernel
theorem dX3_init_35 : decode cX3_init 35 = .ok (.iconst 0, 1) := by decide +kernel
theorem dX3_init_36 : decode cX3_init 36 = .ok (.putfield 31, 3) := by decide +kernel
theorem dX3_init_39 : decode cX3_init 39 = .ok (.aload_n 0, 1) := by decide +kernel
theorem dX3_init_40 : decode cX3_init 40 = .ok (.iconst 0, 1) := by decide +kernel
theorem dX3_init_41 : decode cX3_init 41 = .ok (.putfield 34, 3) := by decide +kernel
theorem dX3_init_44 : decode cX3_init 44 = .ok (.aload_n 0, 1) := by decide +kernel
theorem dX3_init_45 : decode cX3_init 45 = .ok (.iconst 0, 1) := by decide +kernel
theorem dX3_init_46 : decode cX3_init 46 = .ok (.putfield 37, 3) := by decide +kernel
theorem dX3_init_49 : decode cX3_init 49 = .ok (.aload_n 0, 1) := by decide +kernel
theorem dX3_init_50 : decode cX3_init 50 = .ok (.iconst 0, 1) := by decide +kernel
theorem dX3_init_51 : decode cX3_init 51 = .ok (.putfield 40, 3) := by decide +kernel
theorem dX3_init_54 : decode cX3_init 54 = .ok (.aload_n 0, 1) := by decide +kernel
theorem dX3_init_55 : decode cX3_init 55 = .ok (.iconst 0, 1) := by decide +kernel
theorem dX3_init_56 : decode cX3_init 56 = .ok (.putfield 43, 3) := by decide +kernel
theorem dX3_init_59 : decode cX3_init 59 = .ok (.aload_n 0, 1) := by decide +kernel
theorem dX3_init_60 : decode cX3_init 60 = .ok (.iconst 0, 1) := by decide +kernel
theorem dX3_init_61 : decode cX3_init 61 = .ok (.putfield 46, 3) := by decide +kernel
theorem dX3_init_64 : decode cX3_init 64 = .ok (.aload_n 0, 1) := by decide +kernel
theorem dX3_init_65 : decode cX3_init 65 = .ok (.new 49, 3) := by decide +kernel
theorem dX3_init_68 : decode cX3_init 68 = .ok (.dup, 1) := by decide +kernel
theorem dX3_init_69 : decode cX3_init 69 = .ok (.invokespecial 51, 3) := by decide +kernel
theorem dX3_init_72 : decode cX3_init 72 = .ok (.putfield 52, 3) := by decide +kernel
theorem dX3_init_75 : decode cX3_init 75 = .ok (.aload_n 0, 1) := by decide +kernel
theorem dX3_init_76 : decode cX3_init 76 = .ok (.new 49, 3) := by decide +kernel
theorem dX3_init_79 : decode cX3_init 79 = .ok (.dup, 1) := by decide +kernel
theorem dX3_init_80 : decode cX3_init 80 = .ok (.invokespecial 51, 3) := by decide +kernel
theorem dX3_init_83 : decode cX3_init 83 = .ok (.putfield 56, 3) := by decide +kernel
theorem dX3_init_86 : decode cX3_init 86 = .ok (.aload_n 0, 1) := by decide +kernel
theorem dX3_init_87 : decode cX3_init 87 = .ok (.iload_n 1, 1) := by decide +kernel
theorem dX3_init_88 : decode cX3_init 88 = .ok (.iconst 3, 1) := by decide +kernel
theorem dX3_init_89 : decode cX3_init 89 = .ok (.if_icmp .ge 7, 3) := by decide +kernel
theorem dX3_init_92 : decode cX3_init 92 = .ok (.iconst 1, 1) := by decide +kernel
theorem dX3_init_93 : decode cX3_init 93 = .ok (.goto 4, 3) := by decide +kernel
theorem dX3_init_96 : decode cX3_init 96 = .ok (.iconst 2, 1) := by decide +kernel
theorem dX3_init_97 : decode cX3_init 97 = .ok (.putfield 59, 3) := by decide +kernel
theorem dX3_init_100 : decode cX3_init 100 = .ok (.aload_n 0, 1) := by decide +kernel
theorem dX3_init_101 : decode cX3_init 101 = .ok (.iload_n 1, 1) := by decide +kernel
theorem dX3_init_102 : decode cX3_init 102 = .ok (.iconst 1, 1) := by decide +kernel
theorem dX3_init_103 : decode cX3_init 103 = .ok (.iadd, 1) := by decide +kernel
theorem dX3_init_104 : decode cX3_init 104 = .ok (.putfield 62, 3) := by decide +kernel
theorem dX3_init_107 : decode cX3_init 107 = .ok (.return_, 1) := by decide +kernel
theorem dX3_copy_0 : decode cX3_copy 0 = .ok (.aload_n 0, 1) := by decide +kernel
theorem dX3_copy_1 : decode cX3_copy 1 = .ok (.aload_n 1, 1) := by decide +kernel
theorem dX3_copy_2 : decode cX3_copy 2 = .ok (.getfield 59, 3) := by decide +kernel
theorem dX3_copy_5 : decode cX3_copy 5 = .ok (.putfield 59, 3) := by decide +kernel
theorem dX3_copy_8 : decode cX3_copy 8 = .ok (.aload_n 0, 1) := by decide +kernel
theorem dX3_copy_9 : decode cX3_copy 9 = .ok (.aload_n 1, 1) := by decide +kernel
theorem dX3_copy_10 : decode cX3_copy 10 = .ok (.getfield 62, 3) := by decide +kernel
theorem dX3_copy_13 : decode cX3_copy 13 = .ok (.putfield 62, 3) := by decide +kernel
theorem dX3_copy_16 : decode cX3_copy 16 = .ok (.aload_n 0, 1) := by decide +kernel
theorem dX3_copy_17 : decode cX3_copy 17 = .ok (.aload_n 1, 1) := by decide +kernel
theorem dX3_copy_18 : decode cX3_copy 18 = .ok (.getfield 9, 3) := by decide +kernel
theorem dX3_copy_21 : decode cX3_copy 21 = .ok (.putfield 9, 3) := by decide +kernel
theorem dX3_copy_24 : decode cX3_copy 24 = .ok (.aload_n 0, 1) := by decide +kernel
theorem dX3_copy_25 : decode cX3_copy 25 = .ok (.aload_n 1, 1) := by decide +kernel
theorem dX3_copy_26 : decode cX3_copy 26 = .ok (.getfield 15, 3) := by decide +kernel
theorem dX3_copy_29 : decode cX3_copy 29 = .ok (.putfield 15, 3) := by decide +kernel
theorem dX3_copy_32 : decode cX3_copy 32 = .ok (.aload_n 0, 1) := by decide +kernel
theorem dX3_copy_33 : decode cX3_copy 33 = .ok (.aload_n 1, 1) := by decide +kernel
theorem dX3_copy_34 : decode cX3_copy 34 = .ok (.getfield 18, 3) := by decide +kernel
theorem dX3_copy_37 : decode cX3_copy 37 = .ok (.putfield 18, 3) := by decide +kernel
theorem dX3_copy_40 : decode cX3_copy 40 = .ok (.aload_n 0, 1) := by decide +kernel
theorem dX3_copy_41 : decode cX3_copy 41 = .ok (.aload_n 1, 1) := by decide +kernel
theorem dX3_copy_42 : decode cX3_copy 42 = .ok (.getfield 21, 3) := by decide +kernel
theorem dX3_copy_45 : decode cX3_copy 45 = .ok (.putfield 21, 3) := by decide +kernel
theorem dX3_copy_48 : decode cX3_copy 48 = .ok (.aload_n 0, 1) := by decide +kernel
theorem dX3_copy_49 : decode cX3_copy 49 = .ok (.aload_n 1, 1) := by decide +kernel
theorem dX3_copy_50 : decode cX3_copy 50 = .ok (.getfield 24, 3) := by decide +kernel
theorem dX3_copy_53 : decode cX3_copy 53 = .ok (.putfield 24, 3) := by decide +kernel
theorem dX3_copy_56 : decode cX3_copy 56 = .ok (.aload_n 0, 1) := by decide +kernel
theorem dX3_copy_57 : decode cX3_copy 57 = .ok (.aload_n 1, 1) := by decide +kernel
theorem dX3_copy_58 : decode cX3_copy 58 = .ok (.getfield 28, 3) := by decide +kernel
theorem dX3_copy_61 : decode cX3_copy 61 = .ok (.putfield 28, 3) := by decide +kernel
theorem dX3_copy_64 : decode cX3_copy 64 = .ok (.aload_n 0, 1) := by decide +kernel
theorem dX3_copy_65 : decode cX3_copy 65 = .ok (.aload_n 1, 1) := by decide +kernel
theorem dX3_copy_66 : decode cX3_copy 66 = .ok (.getfield 31, 3) := by decide +kernel
theorem dX3_copy_69 : decode cX3_copy 69 = .ok (.putfield 31, 3) := by decide +kernel
theorem dX3_copy_72 : decode cX3_copy 72 = .ok (.aload_n 0, 1) := by decide +kernel
theorem dX3_copy_73 : decode cX3_copy 73 = .ok (.aload_n 1, 1) := by decide +kernel
theorem dX3_copy_74 : decode cX3_copy 74 = .ok (.getfield 34, 3) := by decide +kernel
theorem dX3_copy_77 : decode cX3_copy 77 = .ok (.putfield 34, 3) := by decide +kernel
theorem dX3_copy_80 : decode cX3_copy 80 = .ok (.aload_n 0, 1) := by decide +kernel
theorem dX3_copy_81 : decode cX3_copy 81 = .ok (.aload_n 1, 1) := by decide +kernel
theorem dX3_copy_82 : decode cX3_copy 82 = .ok (.getfield 37, 3) := by decide +kernel
theorem dX3_copy_85 : decode cX3_copy 85 = .ok (.putfield 37, 3) := by decide +kernel
theorem dX3_copy_88 : decode cX3_copy 88 = .ok (.aload_n 0, 1) := by decide +kernel
theorem dX3_copy_89 : decode cX3_copy 89 = .ok (.aload_n 1, 1) := by decide +kernel
theorem dX3_copy_90 : decode cX3_copy 90 = .ok (.getfield 40, 3) := by decide +kernel
theorem dX3_copy_93 : decode cX3_copy 93 = .ok (.putfield 40, 3) := by decide +kernel
theorem dX3_copy_96 : decode cX3_copy 96 = .ok (.aload_n 0, 1) := by decide +kernel
theorem dX3_copy_97 : decode cX3_copy 97 = .ok (.aload_n 1, 1) := by decide +kernel
theorem dX3_copy_98 : decode cX3_copy 98 = .ok (.getfield 43, 3) := by decide +kernel
theorem dX3_copy_101 : decode cX3_copy 101 = .ok (.putfield 43, 3) := by decide +kernel
theorem dX3_copy_104 : decode cX3_copy 104 = .ok (.aload_n 0, 1) := by decide +kernel
theorem dX3_copy_105 : decode cX3_copy 105 = .ok (.aload_n 1, 1) := by decide +kernel
theorem dX3_copy_106 : decode cX3_copy 106 = .ok (.getfield 46, 3) := by decide +kernel
theorem dX3_copy_109 : decode cX3_copy 109 = .ok (.putfield 46, 3) := by decide +kernel
theorem dX3_copy_112 : decode cX3_copy 112 = .ok (.aload_n 0, 1) := by decide +kernel
theorem dX3_copy_113 : decode cX3_copy 113 = .ok (.getfield 52, 3) := by decide +kernel
theorem dX3_copy_116 : decode cX3_copy 116 = .ok (.aload_n 1, 1) := by decide +kernel
theorem dX3_copy_117 : decode cX3_copy 117 = .ok (.getfield 52, 3) := by decide +kernel
theorem dX3_copy_120 : decode cX3_copy 120 = .ok (.invokevirtual 65, 3) := by decide +kernel
theorem dX3_copy_123 : decode cX3_copy 123 = .ok (.aload_n 0, 1) := by decide +kernel
theorem dX3_copy_124 : decode cX3_copy 124 = .ok (.getfield 56, 3) := by decide +kernel
theorem dX3_copy_127 : decode cX3_copy 127 = .ok (.aload_n 1, 1) := by decide +kernel
theorem dX3_copy_128 : decode cX3_copy 128 = .ok (.getfield 56, 3) := by decide +kernel
theorem dX3_copy_131 : decode cX3_copy 131 = .ok (.invokevirtual 65, 3) := by decide +kernel
theorem dX3_copy_134 : decode cX3_copy 134 = .ok (.return_, 1) := by decide +kernel
theorem dX3_isAwake_0 : decode cX3_isAwake 0 = .ok (.aload_n 0, 1) := by decide +kernel
theorem dX3_isAwake_1 : decode cX3_isAwake 1 = .ok (.getfield 21, 3) := by decide +kernel
theorem dX3_isAwake_4 : decode cX3_isAwake 4 = .ok (.ifCond .eq 16, 3) := by decide +kernel
theorem dX3_isAwake_7 : decode cX3_isAwake 7 = .ok (.aload_n 0, 1) := by decide +kernel
theorem dX3_isAwake_8 : decode cX3_isAwake 8 = .ok (.getfield 21, 3) := by decide +kernel
theorem dX3_isAwake_11 : decode cX3_isAwake 11 = .ok (.bipush 6, 2) := by decide +kernel
theorem dX3_isAwake_13 : decode cX3_isAwake 13 = .ok (.if_icmp .eq 7, 3) := by decide +kernel
theorem dX3_isAwake_16 : decode cX3_isAwake 16 = .ok (.iconst 1, 1) := by decide +kernel
theorem dX3_isAwake_17 : decode cX3_isAwake 17 = .ok (.goto 4, 3) := by decide +kernel
theorem dX3_isAwake_20 : decode cX3_isAwake 20 = .ok (.iconst 0, 1) := by decide +kernel
theorem dX3_isAwake_21 : decode cX3_isAwake 21 = .ok (.ireturn, 1) := by decide +kernel
theorem dX3_isReadyToSend_0 : decode cX3_isReadyToSend 0 = .ok (.aload_n 0, 1) := by decide +kernel
theorem dX3_isReadyToSend_1 : decode cX3_isReadyToSend 1 = .ok (.getfield 21, 3) := by decide +kernel
theorem dX3_isReadyToSend_4 : decode cX3_isReadyToSend 4 = .ok (.iconst 2, 1) := by decide +kernel
theorem dX3_isReadyToSend_5 : decode cX3_isReadyToSend 5 = .ok (.if_icmp .ne 11, 3) := by decide +kernel
theorem dX3_isReadyToSend_8 : decode cX3_isReadyToSend 8 = .ok (.aload_n 0, 1) := by decide +kernel
theorem dX3_isReadyToSend_9 : decode cX3_isReadyToSend 9 = .ok (.getfield 28, 3) := by decide +kernel
theorem dX3_isReadyToSend_12 : decode cX3_isReadyToSend 12 = .ok (.iconst 1, 1) := by decide +kernel
theorem dX3_isReadyToSend_13 : decode cX3_isReadyToSend 13 = .ok (.if_icmp .ge 19, 3) := by decide +kernel
theorem dX3_isReadyToSend_16 : decode cX3_isReadyToSend 16 = .ok (.aload_n 0, 1) := by decide +kernel
theorem dX3_isReadyToSend_17 : decode cX3_isReadyToSend 17 = .ok (.getfield 21, 3) := by decide +kernel
theorem dX3_isReadyToSend_20 : decode cX3_isReadyToSend 20 = .ok (.iconst 3, 1) := by decide +kernel
theorem dX3_isReadyToSend_21 : decode cX3_isReadyToSend 21 = .ok (.if_icmp .eq 11, 3) := by decide +kernel
theorem dX3_isReadyToSend_24 : decode cX3_isReadyToSend 24 = .ok (.aload_n 0, 1) := by decide +kernel
theorem dX3_isReadyToSend_25 : decode cX3_isReadyToSend 25 = .ok (.getfield 21, 3) := by decide +kernel
theorem dX3_isReadyToSend_28 : decode cX3_isReadyToSend 28 = .ok (.iconst 4, 1) := by decide +kernel
theorem dX3_isReadyToSend_29 : decode cX3_isReadyToSend 29 = .ok (.if_icmp .ne 7, 3) := by decide +kernel
theorem dX3_isReadyToSend_32 : decode cX3_isReadyToSend 32 = .ok (.iconst 1, 1) := by decide +kernel
theorem dX3_isReadyToSend_33 : decode cX3_isReadyToSend 33 = .ok (.goto 4, 3) := by decide +kernel
theorem dX3_isReadyToSend_36 : decode cX3_isReadyToSend 36 = .ok (.iconst 0, 1) := by decide +kernel
theorem dX3_isReadyToSend_37 : decode cX3_isReadyToSend 37 = .ok (.ireturn, 1) := by decide +kernel
theorem dX3_isFirstTurnOfLeader_0 : decode cX3_isFirstTurnOfLeader 0 = .ok (.aload_n 0, 1) := by decide +kernel
theorem dX3_isFirstTurnOfLeader_1 : decode cX3_isFirstTurnOfLeader 1 = .ok (.getfield 21, 3) := by decide +kernel
theorem dX3_isFirstTurnOfLeader_4 : decode cX3_isFirstTurnOfLeader 4 = .ok (.iconst 2, 1) := by decide +kernel
theorem dX3_isFirstTurnOfLeader_5 : decode cX3_isFirstTurnOfLeader 5 = .ok (.if_icmp .ne 15, 3) := by decide +kernel
theorem dX3_isFirstTurnOfLeader_8 : decode cX3_isFirstTurnOfLeader 8 = .ok (.aload_n 0, 1) := by decide +kernel
theorem dX3_isFirstTurnOfLeader_9 : decode cX3_isFirstTurnOfLeader 9 = .ok (.getfield 28, 3) := by decide +kernel
theorem dX3_isFirstTurnOfLeader_12 : decode cX3_isFirstTurnOfLeader 12 = .ok (.iconst 1, 1) := by decide +kernel
theorem dX3_isFirstTurnOfLeader_13 : decode cX3_isFirstTurnOfLeader 13 = .ok (.if_icmp .ne 7, 3) := by decide +kernel
theorem dX3_isFirstTurnOfLeader_16 : decode cX3_isFirstTurnOfLeader 16 = .ok (.iconst 1, 1) := by decide +kernel
theorem dX3_isFirstTurnOfLeader_17 : decode cX3_isFirstTurnOfLeader 17 = .ok (.goto 4, 3) := by decide +kernel
theorem dX3_isFirstTurnOfLeader_20 : decode cX3_isFirstTurnOfLeader 20 = .ok (.iconst 0, 1) := by decide +kernel
theorem dX3_isFirstTurnOfLeader_21 : decode cX3_isFirstTurnOfLeader 21 = .ok (.ireturn, 1) := by decide +kernel
theorem dX3_givesSign_0 : decode cX3_givesSign 0 = .ok (.aload_n 0, 1) := by decide +kernel
theorem dX3_givesSign_1 : decode cX3_givesSign 1 = .ok (.getfield 21, 3) := by decide +kernel
theorem dX3_givesSign_4 : decode cX3_givesSign 4 = .ok (.iconst 2, 1) := by decide +kernel
theorem dX3_givesSign_5 : decode cX3_givesSign 5 = .ok (.if_icmp .ne 14, 3) := by decide +kernel
theorem dX3_givesSign_8 : decode cX3_givesSign 8 = .ok (.aload_n 0, 1) := by decide +kernel
theorem dX3_givesSign_9 : decode cX3_givesSign 9 = .ok (.getfield 28, 3) := by decide +kernel
theorem dX3_givesSign_12 : decode cX3_givesSign 12 = .ok (.ifCond .ne 7, 3) := by decide +kernel
theorem dX3_givesSign_15 : decode cX3_givesSign 15 = .ok (.iconst 1, 1) := by decide +kernel
theorem dX3_givesSign_16 : decode cX3_givesSign 16 = .ok (.goto 4, 3) := by decide +kernel
theorem dX3_givesSign_19 : decode cX3_givesSign 19 = .ok (.iconst 0, 1) := by decide +kernel
theorem dX3_givesSign_20 : decode cX3_givesSign 20 = .ok (.ireturn, 1) := by decide +kernel
theorem dX3_become_0 : decode cX3_become 0 = .ok (.aload_n 0, 1) := by decide +kernel
theorem dX3_become_1 : decode cX3_become 1 = .ok (.iload_n 1, 1) := by decide +kernel
theorem dX3_become_2 : decode cX3_become 2 = .ok (.putfield 21, 3) := by decide +kernel
theorem dX3_become_5 : decode cX3_become 5 = .ok (.aload_n 0, 1) := by decide +kernel
theorem dX3_become_6 : decode cX3_become 6 = .ok (.iconst 1, 1) := by decide +kernel
theorem dX3_become_7 : decode cX3_become 7 = .ok (.putfield 24, 3) := by decide +kernel
theorem dX3_become_10 : decode cX3_become 10 = .ok (.aload_n 0, 1) := by decide +kernel
theorem dX3_become_11 : decode cX3_become 11 = .ok (.iconst 0, 1) := by decide +kernel
theorem dX3_become_12 : decode cX3_become 12 = .ok (.putfield 28, 3) := by decide +kernel
theorem dX3_become_15 : decode cX3_become 15 = .ok (.aload_n 0, 1) := by decide +kernel
theorem dX3_become_16 : decode cX3_become 16 = .ok (.iconst 0, 1) := by decide +kernel
theorem dX3_become_17 : decode cX3_become 17 = .ok (.putfield 31, 3) := by decide +kernel
theorem dX3_become_20 : decode cX3_become 20 = .ok (.aload_n 0, 1) := by decide +kernel
theorem dX3_become_21 : decode cX3_become 21 = .ok (.iconst 0, 1) := by decide +kernel
theorem dX3_become_22 : decode cX3_become 22 = .ok (.putfield 34, 3) := by decide +kernel
theorem dX3_become_25 : decode cX3_become 25 = .ok (.aload_n 0, 1) := by decide +kernel
theorem dX3_become_26 : decode cX3_become 26 = .ok (.iconst 0, 1) := by decide +kernel
theorem dX3_become_27 : decode cX3_become 27 = .ok (.putfield 37, 3) := by decide +kernel
theorem dX3_become_30 : decode cX3_become 30 = .ok (.return_, 1) := by decide +kernel
theorem dX3_beginAnew_0 : decode cX3_beginAnew 0 = .ok (.aload_n 0, 1) := by decide +kernel
theorem dX3_beginAnew_1 : decode cX3_beginAnew 1 = .ok (.iload_n 1, 1) := by decide +kernel
theorem dX3_beginAnew_2 : decode cX3_beginAnew 2 = .ok (.invokevirtual 69, 3) := by decide +kernel
theorem dX3_beginAnew_5 : decode cX3_beginAnew 5 = .ok (.aload_n 0, 1) := by decide +kernel
theorem dX3_beginAnew_6 : decode cX3_beginAnew 6 = .ok (.iload_n 2, 1) := by decide +kernel
theorem dX3_beginAnew_7 : decode cX3_beginAnew 7 = .ok (.putfield 40, 3) := by decide +kernel
theorem dX3_beginAnew_10 : decode cX3_beginAnew 10 = .ok (.aload_n 0, 1) := by decide +kernel
theorem dX3_beginAnew_11 : decode cX3_beginAnew 11 = .ok (.iconst 0, 1) := by decide +kernel
theorem dX3_beginAnew_12 : decode cX3_beginAnew 12 = .ok (.putfield 43, 3) := by decide +kernel
theorem dX3_beginAnew_15 : decode cX3_beginAnew 15 = .ok (.aload_n 0, 1) := by decide +kernel
theorem dX3_beginAnew_16 : decode cX3_beginAnew 16 = .ok (.iconst 0, 1) := by decide +kernel
theorem dX3_beginAnew_17 : decode cX3_beginAnew 17 = .ok (.putfield 46, 3) := by decide +kernel
theorem dX3_beginAnew_20 : decode cX3_beginAnew 20 = .ok (.return_, 1) := by decide +kernel
theorem dX3_turnHearing_0 : decode cX3_turnHearing 0 = .ok (.aload_n 0, 1) := by decide +kernel
theorem dX3_turnHearing_1 : decode cX3_turnHearing 1 = .ok (.getfield 56, 3) := by decide +kernel
theorem dX3_turnHearing_4 : decode cX3_turnHearing 4 = .ok (.astore_n 1, 1) := by decide +kernel
theorem dX3_turnHearing_5 : decode cX3_turnHearing 5 = .ok (.aload_n 0, 1) := by decide +kernel
theorem dX3_turnHearing_6 : decode cX3_turnHearing 6 = .ok (.aload_n 0, 1) := by decide +kernel
theorem dX3_turnHearing_7 : decode cX3_turnHearing 7 = .ok (.getfield 52, 3) := by decide +kernel
theorem dX3_turnHearing_10 : decode cX3_turnHearing 10 = .ok (.putfield 56, 3) := by decide +kernel
theorem dX3_turnHearing_13 : decode cX3_turnHearing 13 = .ok (.aload_n 0, 1) := by decide +kernel
theorem dX3_turnHearing_14 : decode cX3_turnHearing 14 = .ok (.aload_n 1, 1) := by decide +kernel
theorem dX3_turnHearing_15 : decode cX3_turnHearing 15 = .ok (.putfield 52, 3) := by decide +kernel
theorem dX3_turnHearing_18 : decode cX3_turnHearing 18 = .ok (.aload_n 0, 1) := by decide +kernel
theorem dX3_turnHearing_19 : decode cX3_turnHearing 19 = .ok (.getfield 52, 3) := by decide +kernel
theorem dX3_turnHearing_22 : decode cX3_turnHearing 22 = .ok (.invokevirtual 73, 3) := by decide +kernel
theorem dX3_turnHearing_25 : decode cX3_turnHearing 25 = .ok (.return_, 1) := by decide +kernel
theorem dX3_settle_0 : decode cX3_settle 0 = .ok (.aload_n 0, 1) := by decide +kernel
theorem dX3_settle_1 : decode cX3_settle 1 = .ok (.getfield 21, 3) := by decide +kernel
theorem dX3_settle_4 : decode cX3_settle 4 = .ok (.tableswitch 50 1 3 #[28, 36, 43], 28) := by decide +kernel
theorem dX3_settle_32 : decode cX3_settle 32 = .ok (.aload_n 0, 1) := by decide +kernel
theorem dX3_settle_33 : decode cX3_settle 33 = .ok (.iload_n 1, 1) := by decide +kernel
theorem dX3_settle_34 : decode cX3_settle 34 = .ok (.invokevirtual 76, 3) := by decide +kernel
theorem dX3_settle_37 : decode cX3_settle 37 = .ok (.goto 17, 3) := by decide +kernel
theorem dX3_settle_40 : decode cX3_settle 40 = .ok (.aload_n 0, 1) := by decide +kernel
theorem dX3_settle_41 : decode cX3_settle 41 = .ok (.invokevirtual 80, 3) := by decide +kernel
theorem dX3_settle_44 : decode cX3_settle 44 = .ok (.goto 10, 3) := by decide +kernel
theorem dX3_settle_47 : decode cX3_settle 47 = .ok (.aload_n 0, 1) := by decide +kernel
theorem dX3_settle_48 : decode cX3_settle 48 = .ok (.invokevirtual 83, 3) := by decide +kernel
theorem dX3_settle_51 : decode cX3_settle 51 = .ok (.goto 3, 3) := by decide +kernel
theorem dX3_settle_54 : decode cX3_settle 54 = .ok (.return_, 1) := by decide +kernel
theorem dX3_settleListening_0 : decode cX3_settleListening 0 = .ok (.aload_n 0, 1) := by decide +kernel
theorem dX3_settleListening_1 : decode cX3_settleListening 1 = .ok (.aload_n 0, 1) := by decide +kernel
theorem dX3_settleListening_2 : decode cX3_settleListening 2 = .ok (.getfield 52, 3) := by decide +kernel
theorem dX3_settleListening_5 : decode cX3_settleListening 5 = .ok (.getfield 86, 3) := by decide +kernel
theorem dX3_settleListening_8 : decode cX3_settleListening 8 = .ok (.ifCond .ne 16, 3) := by decide +kernel
theorem dX3_settleListening_11 : decode cX3_settleListening 11 = .ok (.iload_n 1, 1) := by decide +kernel
theorem dX3_settleListening_12 : decode cX3_settleListening 12 = .ok (.ifCond .ne 12, 3) := by decide +kernel
theorem dX3_settleListening_15 : decode cX3_settleListening 15 = .ok (.aload_n 0, 1) := by decide +kernel
theorem dX3_settleListening_16 : decode cX3_settleListening 16 = .ok (.getfield 31, 3) := by decide +kernel
theorem dX3_settleListening_19 : decode cX3_settleListening 19 = .ok (.iconst 1, 1) := by decide +kernel
theorem dX3_settleListening_20 : decode cX3_settleListening 20 = .ok (.iadd, 1) := by decide +kernel
theorem dX3_settleListening_21 : decode cX3_settleListening 21 = .ok (.goto 4, 3) := by decide +kernel
theorem dX3_settleListening_24 : decode cX3_settleListening 24 = .ok (.iconst 0, 1) := by decide +kernel
theorem dX3_settleListening_25 : decode cX3_settleListening 25 = .ok (.putfield 31, 3) := by decide +kernel
theorem dX3_settleListening_28 : decode cX3_settleListening 28 = .ok (.aload_n 0, 1) := by decide +kernel
theorem dX3_settleListening_29 : decode cX3_settleListening 29 = .ok (.getfield 59, 3) := by decide +kernel
theorem dX3_settleListening_32 : decode cX3_settleListening 32 = .ok (.iconst 1, 1) := by decide +kernel
theorem dX3_settleListening_33 : decode cX3_settleListening 33 = .ok (.if_icmp .ne 63, 3) := by decide +kernel
theorem dX3_settleListening_36 : decode cX3_settleListening 36 = .ok (.aload_n 0, 1) := by decide +kernel
theorem dX3_settleListening_37 : decode cX3_settleListening 37 = .ok (.getfield 52, 3) := by decide +kernel
theorem dX3_settleListening_40 : decode cX3_settleListening 40 = .ok (.getfield 89, 3) := by decide +kernel
theorem dX3_settleListening_43 : decode cX3_settleListening 43 = .ok (.bipush (-6), 2) := by decide +kernel
theorem dX3_settleListening_45 : decode cX3_settleListening 45 = .ok (.if_icmp .eq 32, 3) := by decide +kernel
theorem dX3_settleListening_48 : decode cX3_settleListening 48 = .ok (.aload_n 0, 1) := by decide +kernel
theorem dX3_settleListening_49 : decode cX3_settleListening 49 = .ok (.getfield 52, 3) := by decide +kernel
theorem dX3_settleListening_52 : decode cX3_settleListening 52 = .ok (.getfield 89, 3) := by decide +kernel
theorem dX3_settleListening_55 : decode cX3_settleListening 55 = .ok (.aload_n 0, 1) := by decide +kernel
theorem dX3_settleListening_56 : decode cX3_settleListening 56 = .ok (.getfield 56, 3) := by decide +kernel
theorem dX3_settleListening_59 : decode cX3_settleListening 59 = .ok (.getfield 89, 3) := by decide +kernel
theorem dX3_settleListening_62 : decode cX3_settleListening 62 = .ok (.if_icmp .ne 15, 3) := by decide +kernel
theorem dX3_settleListening_65 : decode cX3_settleListening 65 = .ok (.aload_n 0, 1) := by decide +kernel
theorem dX3_settleListening_66 : decode cX3_settleListening 66 = .ok (.invokevirtual 92, 3) := by decide +kernel
theorem dX3_settleListening_69 : decode cX3_settleListening 69 = .ok (.aload_n 0, 1) := by decide +kernel
theorem dX3_settleListening_70 : decode cX3_settleListening 70 = .ok (.iconst 3, 1) := by decide +kernel
theorem dX3_settleListening_71 : decode cX3_settleListening 71 = .ok (.invokevirtual 69, 3) := by decide +kernel
theorem dX3_settleListening_74 : decode cX3_settleListening 74 = .ok (.goto 53, 3) := by decide +kernel
theorem dX3_settleListening_77 : decode cX3_settleListening 77 = .ok (.aload_n 0, 1) := by decide +kernel
theorem dX3_settleListening_78 : decode cX3_settleListening 78 = .ok (.getfield 31, 3) := by decide +kernel
theorem dX3_settleListening_81 : decode cX3_settleListening 81 = .ok (.aload_n 0, 1) := by decide +kernel
theorem dX3_settleListening_82 : decode cX3_settleListening 82 = .ok (.getfield 9, 3) := by decide +kernel
theorem dX3_settleListening_85 : decode cX3_settleListening 85 = .ok (.if_icmp .lt 42, 3) := by decide +kernel
theorem dX3_settleListening_88 : decode cX3_settleListening 88 = .ok (.aload_n 0, 1) := by decide +kernel
theorem dX3_settleListening_89 : decode cX3_settleListening 89 = .ok (.iconst 2, 1) := by decide +kernel
theorem dX3_settleListening_90 : decode cX3_settleListening 90 = .ok (.invokevirtual 69, 3) := by decide +kernel
theorem dX3_settleListening_93 : decode cX3_settleListening 93 = .ok (.goto 34, 3) := by decide +kernel
theorem dX3_settleListening_96 : decode cX3_settleListening 96 = .ok (.aload_n 0, 1) := by decide +kernel
theorem dX3_settleListening_97 : decode cX3_settleListening 97 = .ok (.getfield 52, 3) := by decide +kernel
theorem dX3_settleListening_100 : decode cX3_settleListening 100 = .ok (.getfield 95, 3) := by decide +kernel
theorem dX3_settleListening_103 : decode cX3_settleListening 103 = .ok (.iconst 2, 1) := by decide +kernel
theorem dX3_settleListening_104 : decode cX3_settleListening 104 = .ok (.if_icmp .lt 23, 3) := by decide +kernel
theorem dX3_settleListening_107 : decode cX3_settleListening 107 = .ok (.aload_n 0, 1) := by decide +kernel
theorem dX3_settleListening_108 : decode cX3_settleListening 108 = .ok (.getfield 56, 3) := by decide +kernel
theorem dX3_settleListening_111 : decode cX3_settleListening 111 = .ok (.getfield 95, 3) := by decide +kernel
theorem dX3_settleListening_114 : decode cX3_settleListening 114 = .ok (.iconst 2, 1) := by decide +kernel
theorem dX3_settleListening_115 : decode cX3_settleListening 115 = .ok (.if_icmp .lt 12, 3) := by decide +kernel
theorem dX3_settleListening_118 : decode cX3_settleListening 118 = .ok (.aload_n 0, 1) := by decide +kernel
theorem dX3_settleListening_119 : decode cX3_settleListening 119 = .ok (.invokevirtual 92, 3) := by decide +kernel
theorem dX3_settleListening_122 : decode cX3_settleListening 122 = .ok (.aload_n 0, 1) := by decide +kernel
theorem dX3_settleListening_123 : decode cX3_settleListening 123 = .ok (.iconst 4, 1) := by decide +kernel
theorem dX3_settleListening_124 : decode cX3_settleListening 124 = .ok (.invokevirtual 69, 3) := by decide +kernel
theorem dX3_settleListening_127 : decode cX3_settleListening 127 = .ok (.return_, 1) := by decide +kernel
theorem dX3_followGuide_0 : decode cX3_followGuide 0 = .ok (.aload_n 0, 1) := by decide +kernel
theorem dX3_followGuide_1 : decode cX3_followGuide 1 = .ok (.dup, 1) := by decide +kernel
theorem dX3_followGuide_2 : decode cX3_followGuide 2 = .ok (.getfield 40, 3) := by decide +kernel
theorem dX3_followGuide_5 : decode cX3_followGuide 5 = .ok (.aload_n 0, 1) := by decide +kernel
theorem dX3_followGuide_6 : decode cX3_followGuide 6 = .ok (.getfield 52, 3) := by decide +kernel
theorem dX3_followGuide_9 : decode cX3_followGuide 9 = .ok (.getfield 98, 3) := by decide +kernel
theorem dX3_followGuide_12 : decode cX3_followGuide 12 = .ok (.iadd, 1) := by decide +kernel
theorem dX3_followGuide_13 : decode cX3_followGuide 13 = .ok (.putfield 40, 3) := by decide +kernel
theorem dX3_followGuide_16 : decode cX3_followGuide 16 = .ok (.aload_n 0, 1) := by decide +kernel
theorem dX3_followGuide_17 : decode cX3_followGuide 17 = .ok (.aload_n 0, 1) := by decide +kernel
theorem dX3_followGuide_18 : decode cX3_followGuide 18 = .ok (.getfield 52, 3) := by decide +kernel
theorem dX3_followGuide_21 : decode cX3_followGuide 21 = .ok (.getfield 101, 3) := by decide +kernel
theorem dX3_followGuide_24 : decode cX3_followGuide 24 = .ok (.aload_n 0, 1) := by decide +kernel
theorem dX3_followGuide_25 : decode cX3_followGuide 25 = .ok (.getfield 15, 3) := by decide +kernel
theorem dX3_followGuide_28 : decode cX3_followGuide 28 = .ok (.isub, 1) := by decide +kernel
theorem dX3_followGuide_29 : decode cX3_followGuide 29 = .ok (.putfield 43, 3) := by decide +kernel
theorem dX3_followGuide_32 : decode cX3_followGuide 32 = .ok (.return_, 1) := by decide +kernel
theorem dX3_settleLeading_0 : decode cX3_settleLeading 0 = .ok (.aload_n 0, 1) := by decide +kernel
theorem dX3_settleLeading_1 : decode cX3_settleLeading 1 = .ok (.getfield 28, 3) := by decide +kernel
theorem dX3_settleLeading_4 : decode cX3_settleLeading 4 = .ok (.iconst 3, 1) := by decide +kernel
theorem dX3_settleLeading_5 : decode cX3_settleLeading 5 = .ok (.if_icmp .lt 21, 3) := by decide +kernel
theorem dX3_settleLeading_8 : decode cX3_settleLeading 8 = .ok (.aload_n 0, 1) := by decide +kernel
theorem dX3_settleLeading_9 : decode cX3_settleLeading 9 = .ok (.getfield 52, 3) := by decide +kernel
theorem dX3_settleLeading_12 : decode cX3_settleLeading 12 = .ok (.getfield 95, 3) := by decide +kernel
theorem dX3_settleLeading_15 : decode cX3_settleLeading 15 = .ok (.ifCond .le 11, 3) := by decide +kernel
theorem dX3_settleLeading_18 : decode cX3_settleLeading 18 = .ok (.aload_n 0, 1) := by decide +kernel
theorem dX3_settleLeading_19 : decode cX3_settleLeading 19 = .ok (.iconst 4, 1) := by decide +kernel
theorem dX3_settleLeading_20 : decode cX3_settleLeading 20 = .ok (.invokevirtual 69, 3) := by decide +kernel
theorem dX3_settleLeading_23 : decode cX3_settleLeading 23 = .ok (.goto 17, 3) := by decide +kernel
theorem dX3_settleLeading_26 : decode cX3_settleLeading 26 = .ok (.aload_n 0, 1) := by decide +kernel
theorem dX3_settleLeading_27 : decode cX3_settleLeading 27 = .ok (.getfield 28, 3) := by decide +kernel
theorem dX3_settleLeading_30 : decode cX3_settleLeading 30 = .ok (.bipush 7, 2) := by decide +kernel
theorem dX3_settleLeading_32 : decode cX3_settleLeading 32 = .ok (.if_icmp .lt 8, 3) := by decide +kernel
theorem dX3_settleLeading_35 : decode cX3_settleLeading 35 = .ok (.aload_n 0, 1) := by decide +kernel
theorem dX3_settleLeading_36 : decode cX3_settleLeading 36 = .ok (.iconst 1, 1) := by decide +kernel
theorem dX3_settleLeading_37 : decode cX3_settleLeading 37 = .ok (.invokevirtual 69, 3) := by decide +kernel
theorem dX3_settleLeading_40 : decode cX3_settleLeading 40 = .ok (.return_, 1) := by decide +kernel
theorem dX3_settleJoining_0 : decode cX3_settleJoining 0 = .ok (.aload_n 0, 1) := by decide +kernel
theorem dX3_settleJoining_1 : decode cX3_settleJoining 1 = .ok (.getfield 52, 3) := by decide +kernel
theorem dX3_settleJoining_4 : decode cX3_settleJoining 4 = .ok (.getfield 95, 3) := by decide +kernel
theorem dX3_settleJoining_7 : decode cX3_settleJoining 7 = .ok (.ifCond .ne 11, 3) := by decide +kernel
theorem dX3_settleJoining_10 : decode cX3_settleJoining 10 = .ok (.aload_n 0, 1) := by decide +kernel
theorem dX3_settleJoining_11 : decode cX3_settleJoining 11 = .ok (.iconst 1, 1) := by decide +kernel
theorem dX3_settleJoining_12 : decode cX3_settleJoining 12 = .ok (.invokevirtual 69, 3) := by decide +kernel
theorem dX3_settleJoining_15 : decode cX3_settleJoining 15 = .ok (.goto 16, 3) := by decide +kernel
theorem dX3_settleJoining_18 : decode cX3_settleJoining 18 = .ok (.aload_n 0, 1) := by decide +kernel
theorem dX3_settleJoining_19 : decode cX3_settleJoining 19 = .ok (.getfield 28, 3) := by decide +kernel
theorem dX3_settleJoining_22 : decode cX3_settleJoining 22 = .ok (.iconst 2, 1) := by decide +kernel
theorem dX3_settleJoining_23 : decode cX3_settleJoining 23 = .ok (.if_icmp .lt 8, 3) := by decide +kernel
theorem dX3_settleJoining_26 : decode cX3_settleJoining 26 = .ok (.aload_n 0, 1) := by decide +kernel
theorem dX3_settleJoining_27 : decode cX3_settleJoining 27 = .ok (.iconst 4, 1) := by decide +kernel
theorem dX3_settleJoining_28 : decode cX3_settleJoining 28 = .ok (.invokevirtual 69, 3) := by decide +kernel
theorem dX3_settleJoining_31 : decode cX3_settleJoining 31 = .ok (.return_, 1) := by decide +kernel
theorem dX3_correct_0 : decode cX3_correct 0 = .ok (.aload_n 0, 1) := by decide +kernel
theorem dX3_correct_1 : decode cX3_correct 1 = .ok (.getfield 52, 3) := by decide +kernel
theorem dX3_correct_4 : decode cX3_correct 4 = .ok (.aload_n 2, 1) := by decide +kernel
theorem dX3_correct_5 : decode cX3_correct 5 = .ok (.invokevirtual 104, 3) := by decide +kernel
theorem dX3_correct_8 : decode cX3_correct 8 = .ok (.istore_n 3, 1) := by decide +kernel
theorem dX3_correct_9 : decode cX3_correct 9 = .ok (.aload_n 0, 1) := by decide +kernel
theorem dX3_correct_10 : decode cX3_correct 10 = .ok (.getfield 52, 3) := by decide +kernel
theorem dX3_correct_13 : decode cX3_correct 13 = .ok (.getfield 86, 3) := by decide +kernel
theorem dX3_correct_16 : decode cX3_correct 16 = .ok (.ifCond .eq 11, 3) := by decide +kernel
theorem dX3_correct_19 : decode cX3_correct 19 = .ok (.iload_n 3, 1) := by decide +kernel
theorem dX3_correct_20 : decode cX3_correct 20 = .ok (.invokestatic 108, 3) := by decide +kernel
theorem dX3_correct_23 : decode cX3_correct 23 = .ok (.iload_n 1, 1) := by decide +kernel
theorem dX3_correct_24 : decode cX3_correct 24 = .ok (.if_icmp .le 21, 3) := by decide +kernel
theorem dX3_correct_27 : decode cX3_correct 27 = .ok (.aload_n 0, 1) := by decide +kernel
theorem dX3_correct_28 : decode cX3_correct 28 = .ok (.dup, 1) := by decide +kernel
theorem dX3_correct_29 : decode cX3_correct 29 = .ok (.getfield 37, 3) := by decide +kernel
theorem dX3_correct_32 : decode cX3_correct 32 = .ok (.iconst 1, 1) := by decide +kernel
theorem dX3_correct_33 : decode cX3_correct 33 = .ok (.iadd, 1) := by decide +kernel
theorem dX3_correct_34 : decode cX3_correct 34 = .ok (.putfield 37, 3) := by decide +kernel
theorem dX3_correct_37 : decode cX3_correct 37 = .ok (.aload_n 0, 1) := by decide +kernel
theorem dX3_correct_38 : decode cX3_correct 38 = .ok (.iconst 0, 1) := by decide +kernel
theorem dX3_correct_39 : decode cX3_correct 39 = .ok (.putfield 34, 3) := by decide +kernel
theorem dX3_correct_42 : decode cX3_correct 42 = .ok (.goto 63, 3) := by decide +kernel
theorem dX3_correct_45 : decode cX3_correct 45 = .ok (.aload_n 0, 1) := by decide +kernel
theorem dX3_correct_46 : decode cX3_correct 46 = .ok (.dup, 1) := by decide +kernel
theorem dX3_correct_47 : decode cX3_correct 47 = .ok (.getfield 34, 3) := by decide +kernel
theorem dX3_correct_50 : decode cX3_correct 50 = .ok (.iconst 1, 1) := by decide +kernel
theorem dX3_correct_51 : decode cX3_correct 51 = .ok (.iadd, 1) := by decide +kernel
theorem dX3_correct_52 : decode cX3_correct 52 = .ok (.putfield 34, 3) := by decide +kernel
theorem dX3_correct_55 : decode cX3_correct 55 = .ok (.aload_n 0, 1) := by decide +kernel
theorem dX3_correct_56 : decode cX3_correct 56 = .ok (.iconst 0, 1) := by decide +kernel
theorem dX3_correct_57 : decode cX3_correct 57 = .ok (.putfield 37, 3) := by decide +kernel
theorem dX3_correct_60 : decode cX3_correct 60 = .ok (.aload_n 0, 1) := by decide +kernel
theorem dX3_correct_61 : decode cX3_correct 61 = .ok (.dup, 1) := by decide +kernel
theorem dX3_correct_62 : decode cX3_correct 62 = .ok (.getfield 40, 3) := by decide +kernel
theorem dX3_correct_65 : decode cX3_correct 65 = .ok (.iload_n 3, 1) := by decide +kernel
theorem dX3_correct_66 : decode cX3_correct 66 = .ok (.iadd, 1) := by decide +kernel
theorem dX3_correct_67 : decode cX3_correct 67 = .ok (.putfield 40, 3) := by decide +kernel
theorem dX3_correct_70 : decode cX3_correct 70 = .ok (.aload_n 0, 1) := by decide +kernel
theorem dX3_correct_71 : decode cX3_correct 71 = .ok (.getfield 43, 3) := by decide +kernel
theorem dX3_correct_74 : decode cX3_correct 74 = .ok (.aload_n 0, 1) := by decide +kernel
theorem dX3_correct_75 : decode cX3_correct 75 = .ok (.getfield 52, 3) := by decide +kernel
theorem dX3_correct_78 : decode cX3_correct 78 = .ok (.aload_n 0, 1) := by decide +kernel
theorem dX3_correct_79 : decode cX3_correct 79 = .ok (.getfield 56, 3) := by decide +kernel
theorem dX3_correct_82 : decode cX3_correct 82 = .ok (.aload_n 2, 1) := by decide +kernel
theorem dX3_correct_83 : decode cX3_correct 83 = .ok (.invokevirtual 114, 3) := by decide +kernel
theorem dX3_correct_86 : decode cX3_correct 86 = .ok (.iadd, 1) := by decide +kernel
theorem dX3_correct_87 : decode cX3_correct 87 = .ok (.istore 4, 2) := by decide +kernel
theorem dX3_correct_89 : decode cX3_correct 89 = .ok (.aload_n 0, 1) := by decide +kernel
theorem dX3_correct_90 : decode cX3_correct 90 = .ok (.bipush (-100), 2) := by decide +kernel
theorem dX3_correct_92 : decode cX3_correct 92 = .ok (.bipush 100, 2) := by decide +kernel
theorem dX3_correct_94 : decode cX3_correct 94 = .ok (.iload 4, 2) := by decide +kernel
theorem dX3_correct_96 : decode cX3_correct 96 = .ok (.invokestatic 118, 3) := by decide +kernel
theorem dX3_correct_99 : decode cX3_correct 99 = .ok (.invokestatic 122, 3) := by decide +kernel
theorem dX3_correct_102 : decode cX3_correct 102 = .ok (.putfield 43, 3) := by decide +kernel
theorem dX3_correct_105 : decode cX3_correct 105 = .ok (.aload_n 0, 1) := by decide +kernel
theorem dX3_correct_106 : decode cX3_correct 106 = .ok (.getfield 21, 3) := by decide +kernel
theorem dX3_correct_109 : decode cX3_correct 109 = .ok (.iconst 4, 1) := by decide +kernel
theorem dX3_correct_110 : decode cX3_correct 110 = .ok (.if_icmp .ne 18, 3) := by decide +kernel
theorem dX3_correct_113 : decode cX3_correct 113 = .ok (.aload_n 0, 1) := by decide +kernel
theorem dX3_correct_114 : decode cX3_correct 114 = .ok (.getfield 37, 3) := by decide +kernel
theorem dX3_correct_117 : decode cX3_correct 117 = .ok (.ifCond .le 11, 3) := by decide +kernel
theorem dX3_correct_120 : decode cX3_correct 120 = .ok (.aload_n 0, 1) := by decide +kernel
theorem dX3_correct_121 : decode cX3_correct 121 = .ok (.iconst 5, 1) := by decide +kernel
theorem dX3_correct_122 : decode cX3_correct 122 = .ok (.invokevirtual 69, 3) := by decide +kernel
theorem dX3_correct_125 : decode cX3_correct 125 = .ok (.goto 49, 3) := by decide +kernel
theorem dX3_correct_128 : decode cX3_correct 128 = .ok (.aload_n 0, 1) := by decide +kernel
theorem dX3_correct_129 : decode cX3_correct 129 = .ok (.getfield 21, 3) := by decide +kernel
theorem dX3_correct_132 : decode cX3_correct 132 = .ok (.iconst 5, 1) := by decide +kernel
theorem dX3_correct_133 : decode cX3_correct 133 = .ok (.if_icmp .ne 20, 3) := by decide +kernel
theorem dX3_correct_136 : decode cX3_correct 136 = .ok (.aload_n 0, 1) := by decide +kernel
theorem dX3_correct_137 : decode cX3_correct 137 = .ok (.getfield 37, 3) := by decide +kernel
theorem dX3_correct_140 : decode cX3_correct 140 = .ok (.iconst 3, 1) := by decide +kernel
theorem dX3_correct_141 : decode cX3_correct 141 = .ok (.if_icmp .lt 12, 3) := by decide +kernel
theorem dX3_correct_144 : decode cX3_correct 144 = .ok (.aload_n 0, 1) := by decide +kernel
theorem dX3_correct_145 : decode cX3_correct 145 = .ok (.bipush 6, 2) := by decide +kernel
theorem dX3_correct_147 : decode cX3_correct 147 = .ok (.invokevirtual 69, 3) := by decide +kernel
theorem dX3_correct_150 : decode cX3_correct 150 = .ok (.goto 24, 3) := by decide +kernel
theorem dX3_correct_153 : decode cX3_correct 153 = .ok (.aload_n 0, 1) := by decide +kernel
theorem dX3_correct_154 : decode cX3_correct 154 = .ok (.getfield 21, 3) := by decide +kernel
theorem dX3_correct_157 : decode cX3_correct 157 = .ok (.iconst 5, 1) := by decide +kernel
theorem dX3_correct_158 : decode cX3_correct 158 = .ok (.if_icmp .ne 16, 3) := by decide +kernel
theorem dX3_correct_161 : decode cX3_correct 161 = .ok (.aload_n 0, 1) := by decide +kernel
theorem dX3_correct_162 : decode cX3_correct 162 = .ok (.getfield 34, 3) := by decide +kernel
theorem dX3_correct_165 : decode cX3_correct 165 = .ok (.iconst 2, 1) := by decide +kernel
theorem dX3_correct_166 : decode cX3_correct 166 = .ok (.if_icmp .lt 8, 3) := by decide +kernel
theorem dX3_correct_169 : decode cX3_correct 169 = .ok (.aload_n 0, 1) := by decide +kernel
theorem dX3_correct_170 : decode cX3_correct 170 = .ok (.iconst 4, 1) := by decide +kernel
theorem dX3_correct_171 : decode cX3_correct 171 = .ok (.invokevirtual 69, 3) := by decide +kernel
theorem dX3_correct_174 : decode cX3_correct 174 = .ok (.return_, 1) := by decide +kernel
theorem dX4_init_0 : decode cX4_init 0 = .ok (.aload_n 0, 1) := by decide +kernel
theorem dX4_init_1 : decode cX4_init 1 = .ok (.invokespecial 3, 3) := by decide +kernel
theorem dX4_init_4 : decode cX4_init 4 = .ok (.aload_n 0, 1) := by decide +kernel
theorem dX4_init_5 : decode cX4_init 5 = .ok (.bipush 6, 2) := by decide +kernel
theorem dX4_init_7 : decode cX4_init 7 = .ok (.newarray .int, 2) := by decide +kernel
theorem dX4_init_9 : decode cX4_init 9 = .ok (.putfield 9, 3) := by decide +kernel
theorem dX4_init_12 : decode cX4_init 12 = .ok (.aload_n 0, 1) := by decide +kernel
theorem dX4_init_13 : decode cX4_init 13 = .ok (.iconst 0, 1) := by decide +kernel
theorem dX4_init_14 : decode cX4_init 14 = .ok (.putfield 15, 3) := by decide +kernel
theorem dX4_init_17 : decode cX4_init 17 = .ok (.return_, 1) := by decide +kernel
theorem dX4_clear_0 : decode cX4_clear 0 = .ok (.aload_n 0, 1) := by decide +kernel
theorem dX4_clear_1 : decode cX4_clear 1 = .ok (.iconst 0, 1) := by decide +kernel
theorem dX4_clear_2 : decode cX4_clear 2 = .ok (.putfield 15, 3) := by decide +kernel
theorem dX4_clear_5 : decode cX4_clear 5 = .ok (.return_, 1) := by decide +kernel
theorem dX4_put_0 : decode cX4_put 0 = .ok (.aload_n 0, 1) := by decide +kernel
theorem dX4_put_1 : decode cX4_put 1 = .ok (.getfield 15, 3) := by decide +kernel
theorem dX4_put_4 : decode cX4_put 4 = .ok (.ifCond .lt 15, 3) := by decide +kernel
theorem dX4_put_7 : decode cX4_put 7 = .ok (.aload_n 0, 1) := by decide +kernel
theorem dX4_put_8 : decode cX4_put 8 = .ok (.getfield 15, 3) := by decide +kernel
theorem dX4_put_11 : decode cX4_put 11 = .ok (.aload_n 0, 1) := by decide +kernel
theorem dX4_put_12 : decode cX4_put 12 = .ok (.getfield 9, 3) := by decide +kernel
theorem dX4_put_15 : decode cX4_put 15 = .ok (.arraylength, 1) := by decide +kernel
theorem dX4_put_16 : decode cX4_put 16 = .ok (.if_icmp .lt 4, 3) := by decide +kernel
theorem dX4_put_19 : decode cX4_put 19 = .ok (.return_, 1) := by decide +kernel
theorem dX4_put_20 : decode cX4_put 20 = .ok (.aload_n 0, 1) := by decide +kernel
theorem dX4_put_21 : decode cX4_put 21 = .ok (.getfield 15, 3) := by decide +kernel
theorem dX4_put_24 : decode cX4_put 24 = .ok (.istore_n 2, 1) := by decide +kernel
theorem dX4_put_25 : decode cX4_put 25 = .ok (.iload_n 2, 1) := by decide +kernel
theorem dX4_put_26 : decode cX4_put 26 = .ok (.ifCond .le 35, 3) := by decide +kernel
theorem dX4_put_29 : decode cX4_put 29 = .ok (.aload_n 0, 1) := by decide +kernel
theorem dX4_put_30 : decode cX4_put 30 = .ok (.getfield 9, 3) := by decide +kernel
theorem dX4_put_33 : decode cX4_put 33 = .ok (.iload_n 2, 1) := by decide +kernel
theorem dX4_put_34 : decode cX4_put 34 = .ok (.iconst 1, 1) := by decide +kernel
theorem dX4_put_35 : decode cX4_put 35 = .ok (.isub, 1) := by decide +kernel
theorem dX4_put_36 : decode cX4_put 36 = .ok (.iaload, 1) := by decide +kernel
theorem dX4_put_37 : decode cX4_put 37 = .ok (.iload_n 1, 1) := by decide +kernel
theorem dX4_put_38 : decode cX4_put 38 = .ok (.if_icmp .le 23, 3) := by decide +kernel
theorem dX4_put_41 : decode cX4_put 41 = .ok (.aload_n 0, 1) := by decide +kernel
theorem dX4_put_42 : decode cX4_put 42 = .ok (.getfield 9, 3) := by decide +kernel
theorem dX4_put_45 : decode cX4_put 45 = .ok (.iload_n 2, 1) := by decide +kernel
theorem dX4_put_46 : decode cX4_put 46 = .ok (.aload_n 0, 1) := by decide +kernel
theorem dX4_put_47 : decode cX4_put 47 = .ok (.getfield 9, 3) := by decide +kernel
theorem dX4_put_50 : decode cX4_put 50 = .ok (.iload_n 2, 1) := by decide +kernel
theorem dX4_put_51 : decode cX4_put 51 = .ok (.iconst 1, 1) := by decide +kernel
theorem dX4_put_52 : decode cX4_put 52 = .ok (.isub, 1) := by decide +kernel
theorem dX4_put_53 : decode cX4_put 53 = .ok (.iaload, 1) := by decide +kernel
theorem dX4_put_54 : decode cX4_put 54 = .ok (.iastore, 1) := by decide +kernel
theorem dX4_put_55 : decode cX4_put 55 = .ok (.iinc 2 (-1), 3) := by decide +kernel
theorem dX4_put_58 : decode cX4_put 58 = .ok (.goto (-33), 3) := by decide +kernel
theorem dX4_put_61 : decode cX4_put 61 = .ok (.aload_n 0, 1) := by decide +kernel
theorem dX4_put_62 : decode cX4_put 62 = .ok (.getfield 9, 3) := by decide +kernel
theorem dX4_put_65 : decode cX4_put 65 = .ok (.iload_n 2, 1) := by decide +kernel
theorem dX4_put_66 : decode cX4_put 66 = .ok (.iload_n 1, 1) := by decide +kernel
theorem dX4_put_67 : decode cX4_put 67 = .ok (.iastore, 1) := by decide +kernel
theorem dX4_put_68 : decode cX4_put 68 = .ok (.aload_n 0, 1) := by decide +kernel
theorem dX4_put_69 : decode cX4_put 69 = .ok (.dup, 1) := by decide +kernel
theorem dX4_put_70 : decode cX4_put 70 = .ok (.getfield 15, 3) := by decide +kernel
theorem dX4_put_73 : decode cX4_put 73 = .ok (.iconst 1, 1) := by decide +kernel
theorem dX4_put_74 : decode cX4_put 74 = .ok (.iadd, 1) := by decide +kernel
theorem dX4_put_75 : decode cX4_put 75 = .ok (.putfield 15, 3) := by decide +kernel
theorem dX4_put_78 : decode cX4_put 78 = .ok (.return_, 1) := by decide +kernel
theorem dX4_areWithin_0 : decode cX4_areWithin 0 = .ok (.iconst 0, 1) := by decide +kernel
theorem dX4_areWithin_1 : decode cX4_areWithin 1 = .ok (.istore_n 3, 1) := by decide +kernel
theorem dX4_areWithin_2 : decode cX4_areWithin 2 = .ok (.iload_n 3, 1) := by decide +kernel
theorem dX4_areWithin_3 : decode cX4_areWithin 3 = .ok (.aload_n 0, 1) := by decide +kernel
theorem dX4_areWithin_4 : decode cX4_areWithin 4 = .ok (.getfield 15, 3) := by decide +kernel
theorem dX4_areWithin_7 : decode cX4_areWithin 7 = .ok (.if_icmp .ge 34, 3) := by decide +kernel
theorem dX4_areWithin_10 : decode cX4_areWithin 10 = .ok (.iload_n 3, 1) := by decide +kernel
theorem dX4_areWithin_11 : decode cX4_areWithin 11 = .ok (.aload_n 0, 1) := by decide +kernel
theorem dX4_areWithin_12 : decode cX4_areWithin 12 = .ok (.getfield 9, 3) := by decide +kernel
theorem dX4_areWithin_15 : decode cX4_areWithin 15 = .ok (.arraylength, 1) := by decide +kernel
theorem dX4_areWithin_16 : decode cX4_areWithin 16 = .ok (.if_icmp .ge 25, 3) := by decide +kernel
theorem dX4_areWithin_19 : decode cX4_areWithin 19 = .ok (.aload_n 0, 1) := by decide +kernel
theorem dX4_areWithin_20 : decode cX4_areWithin 20 = .ok (.getfield 9, 3) := by decide +kernel
theorem dX4_areWithin_23 : decode cX4_areWithin 23 = .ok (.iload_n 3, 1) := by decide +kernel
theorem dX4_areWithin_24 : decode cX4_areWithin 24 = .ok (.iaload, 1) := by decide +kernel
theorem dX4_areWithin_25 : decode cX4_areWithin 25 = .ok (.iload_n 1, 1) := by decide +kernel
theorem dX4_areWithin_26 : decode cX4_areWithin 26 = .ok (.iload_n 2, 1) := by decide +kernel
theorem dX4_areWithin_27 : decode cX4_areWithin 27 = .ok (.invokestatic 19, 3) := by decide +kernel
theorem dX4_areWithin_30 : decode cX4_areWithin 30 = .ok (.ifCond .ne 5, 3) := by decide +kernel
theorem dX4_areWithin_33 : decode cX4_areWithin 33 = .ok (.iconst 0, 1) := by decide +kernel
theorem dX4_areWithin_34 : decode cX4_areWithin 34 = .ok (.ireturn, 1) := by decide +kernel
theorem dX4_areWithin_35 : decode cX4_areWithin 35 = .ok (.iinc 3 1, 3) := by decide +kernel
theorem dX4_areWithin_38 : decode cX4_areWithin 38 = .ok (.goto (-36), 3) := by decide +kernel
theorem dX4_areWithin_41 : decode cX4_areWithin 41 = .ok (.iconst 1, 1) := by decide +kernel
theorem dX4_areWithin_42 : decode cX4_areWithin 42 = .ok (.ireturn, 1) := by decide +kernel
theorem dX4_trimmed_0 : decode cX4_trimmed 0 = .ok (.aload_n 0, 1) := by decide +kernel
theorem dX4_trimmed_1 : decode cX4_trimmed 1 = .ok (.getfield 15, 3) := by decide +kernel
theorem dX4_trimmed_4 : decode cX4_trimmed 4 = .ok (.iconst 3, 1) := by decide +kernel
theorem dX4_trimmed_5 : decode cX4_trimmed 5 = .ok (.if_icmp .lt 7, 3) := by decide +kernel
theorem dX4_trimmed_8 : decode cX4_trimmed 8 = .ok (.iconst 1, 1) := by decide +kernel
theorem dX4_trimmed_9 : decode cX4_trimmed 9 = .ok (.goto 4, 3) := by decide +kernel
theorem dX4_trimmed_12 : decode cX4_trimmed 12 = .ok (.iconst 0, 1) := by decide +kernel
theorem dX4_trimmed_13 : decode cX4_trimmed 13 = .ok (.istore_n 1, 1) := by decide +kernel
theorem dX4_trimmed_14 : decode cX4_trimmed 14 = .ok (.aload_n 0, 1) := by decide +kernel
theorem dX4_trimmed_15 : decode cX4_trimmed 15 = .ok (.getfield 15, 3) := by decide +kernel
theorem dX4_trimmed_18 : decode cX4_trimmed 18 = .ok (.iconst 1, 1) := by decide +kernel
theorem dX4_trimmed_19 : decode cX4_trimmed 19 = .ok (.isub, 1) := by decide +kernel
theorem dX4_trimmed_20 : decode cX4_trimmed 20 = .ok (.iload_n 1, 1) := by decide +kernel
theorem dX4_trimmed_21 : decode cX4_trimmed 21 = .ok (.isub, 1) := by decide +kernel
theorem dX4_trimmed_22 : decode cX4_trimmed 22 = .ok (.istore_n 2, 1) := by decide +kernel
theorem dX4_trimmed_23 : decode cX4_trimmed 23 = .ok (.iload_n 2, 1) := by decide +kernel
theorem dX4_trimmed_24 : decode cX4_trimmed 24 = .ok (.iload_n 1, 1) := by decide +kernel
theorem dX4_trimmed_25 : decode cX4_trimmed 25 = .ok (.if_icmp .lt 12, 3) := by decide +kernel
theorem dX4_trimmed_28 : decode cX4_trimmed 28 = .ok (.iload_n 2, 1) := by decide +kernel
theorem dX4_trimmed_29 : decode cX4_trimmed 29 = .ok (.aload_n 0, 1) := by decide +kernel
theorem dX4_trimmed_30 : decode cX4_trimmed 30 = .ok (.getfield 9, 3) := by decide +kernel
theorem dX4_trimmed_33 : decode cX4_trimmed 33 = .ok (.arraylength, 1) := by decide +kernel
theorem dX4_trimmed_34 : decode cX4_trimmed 34 = .ok (.if_icmp .lt 5, 3) := by decide +kernel
theorem dX4_trimmed_37 : decode cX4_trimmed 37 = .ok (.iconst 0, 1) := by decide +kernel
theorem dX4_trimmed_38 : decode cX4_trimmed 38 = .ok (.ireturn, 1) := by decide +kernel
theorem dX4_trimmed_39 : decode cX4_trimmed 39 = .ok (.aload_n 0, 1) := by decide +kernel
theorem dX4_trimmed_40 : decode cX4_trimmed 40 = .ok (.getfield 9, 3) := by decide +kernel
theorem dX4_trimmed_43 : decode cX4_trimmed 43 = .ok (.iload_n 1, 1) := by decide +kernel
theorem dX4_trimmed_44 : decode cX4_trimmed 44 = .ok (.iaload, 1) := by decide +kernel
theorem dX4_trimmed_45 : decode cX4_trimmed 45 = .ok (.aload_n 0, 1) := by decide +kernel
theorem dX4_trimmed_46 : decode cX4_trimmed 46 = .ok (.getfield 9, 3) := by decide +kernel
theorem dX4_trimmed_49 : decode cX4_trimmed 49 = .ok (.iload_n 2, 1) := by decide +kernel
theorem dX4_trimmed_50 : decode cX4_trimmed 50 = .ok (.iaload, 1) := by decide +kernel
theorem dX4_trimmed_51 : decode cX4_trimmed 51 = .ok (.iadd, 1) := by decide +kernel
theorem dX4_trimmed_52 : decode cX4_trimmed 52 = .ok (.iconst 2, 1) := by decide +kernel
theorem dX4_trimmed_53 : decode cX4_trimmed 53 = .ok (.idiv, 1) := by decide +kernel
theorem dX4_trimmed_54 : decode cX4_trimmed 54 = .ok (.ireturn, 1) := by decide +kernel
