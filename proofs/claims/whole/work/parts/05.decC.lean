theorem dX6_init_0 : decode cX6_init 0 = .ok (.aload_n 0, 1) := by decide +kernel
theorem dX6_init_1 : decode cX6_init 1 = .ok (.invokespecial 1, 3) := by decide +kernel
theorem dX6_init_4 : decode cX6_init 4 = .ok (.aload_n 0, 1) := by decide +kernel
theorem dX6_init_5 : decode cX6_init 5 = .ok (.sipush 256, 3) := by decide +kernel
theorem dX6_init_8 : decode cX6_init 8 = .ok (.newarray .int, 2) := by decide +kernel
theorem dX6_init_10 : decode cX6_init 10 = .ok (.putfield 7, 3) := by decide +kernel
theorem dX6_init_13 : decode cX6_init 13 = .ok (.aload_n 0, 1) := by decide +kernel
theorem dX6_init_14 : decode cX6_init 14 = .ok (.sipush 768, 3) := by decide +kernel
theorem dX6_init_17 : decode cX6_init 17 = .ok (.newarray .int, 2) := by decide +kernel
theorem dX6_init_19 : decode cX6_init 19 = .ok (.putfield 13, 3) := by decide +kernel
theorem dX6_init_22 : decode cX6_init 22 = .ok (.aload_n 0, 1) := by decide +kernel
theorem dX6_init_23 : decode cX6_init 23 = .ok (.iconst 2, 1) := by decide +kernel
theorem dX6_init_24 : decode cX6_init 24 = .ok (.newarray .boolean, 2) := by decide +kernel
theorem dX6_init_26 : decode cX6_init 26 = .ok (.putfield 16, 3) := by decide +kernel
theorem dX6_init_29 : decode cX6_init 29 = .ok (.aload_n 0, 1) := by decide +kernel
theorem dX6_init_30 : decode cX6_init 30 = .ok (.bipush 8, 2) := by decide +kernel
theorem dX6_init_32 : decode cX6_init 32 = .ok (.newarray .int, 2) := by decide +kernel
theorem dX6_init_34 : decode cX6_init 34 = .ok (.putfield 20, 3) := by decide +kernel
theorem dX6_init_37 : decode cX6_init 37 = .ok (.aload_n 0, 1) := by decide +kernel
theorem dX6_init_38 : decode cX6_init 38 = .ok (.bipush 6, 2) := by decide +kernel
theorem dX6_init_40 : decode cX6_init 40 = .ok (.newarray .boolean, 2) := by decide +kernel
theorem dX6_init_42 : decode cX6_init 42 = .ok (.putfield 23, 3) := by decide +kernel
theorem dX6_init_45 : decode cX6_init 45 = .ok (.aload_n 0, 1) := by decide +kernel
theorem dX6_init_46 : decode cX6_init 46 = .ok (.bipush 6, 2) := by decide +kernel
theorem dX6_init_48 : decode cX6_init 48 = .ok (.newarray .boolean, 2) := by decide +kernel
theorem dX6_init_50 : decode cX6_init 50 = .ok (.putfield 26, 3) := by decide +kernel
theorem dX6_init_53 : decode cX6_init 53 = .ok (.aload_n 0, 1) := by decide +kernel
theorem dX6_init_54 : decode cX6_init 54 = .ok (.bipush 6, 2) := by decide +kernel
theorem dX6_init_56 : decode cX6_init 56 = .ok (.newarray .boolean, 2) := by decide +kernel
theorem dX6_init_58 : decode cX6_init 58 = .ok (.putfield 29, 3) := by decide +kernel
theorem dX6_init_61 : decode cX6_init 61 = .ok (.aload_n 0, 1) := by decide +kernel
theorem dX6_init_62 : decode cX6_init 62 = .ok (.bipush 6, 2) := by decide +kernel
theorem dX6_init_64 : decode cX6_init 64 = .ok (.newarray .boolean, 2) := by decide +kernel
theorem dX6_init_66 : decode cX6_init 66 = .ok (.putfield 32, 3) := by decide +kernel
theorem dX6_init_69 : decode cX6_init 69 = .ok (.aload_n 0, 1) := by decide +kernel
theorem dX6_init_70 : decode cX6_init 70 = .ok (.bipush 6, 2) := by decide +kernel
theorem dX6_init_72 : decode cX6_init 72 = .ok (.newarray .int, 2) := by decide +kernel
theorem dX6_init_74 : decode cX6_init 74 = .ok (.putfield 35, 3) := by decide +kernel
theorem dX6_init_77 : decode cX6_init 77 = .ok (.aload_n 0, 1) := by decide +kernel
theorem dX6_init_78 : decode cX6_init 78 = .ok (.bipush 6, 2) := by decide +kernel
theorem dX6_init_80 : decode cX6_init 80 = .ok (.newarray .int, 2) := by decide +kernel
theorem dX6_init_82 : decode cX6_init 82 = .ok (.putfield 38, 3) := by decide +kernel
theorem dX6_init_85 : decode cX6_init 85 = .ok (.aload_n 0, 1) := by decide +kernel
theorem dX6_init_86 : decode cX6_init 86 = .ok (.bipush 6, 2) := by decide +kernel
theorem dX6_init_88 : decode cX6_init 88 = .ok (.newarray .int, 2) := by decide +kernel
theorem dX6_init_90 : decode cX6_init 90 = .ok (.putfield 41, 3) := by decide +kernel
theorem dX6_init_93 : decode cX6_init 93 = .ok (.aload_n 0, 1) := by decide +kernel
theorem dX6_init_94 : decode cX6_init 94 = .ok (.bipush 36, 2) := by decide +kernel
theorem dX6_init_96 : decode cX6_init 96 = .ok (.newarray .int, 2) := by decide +kernel
theorem dX6_init_98 : decode cX6_init 98 = .ok (.putfield 44, 3) := by decide +kernel
theorem dX6_init_101 : decode cX6_init 101 = .ok (.aload_n 0, 1) := by decide +kernel
theorem dX6_init_102 : decode cX6_init 102 = .ok (.bipush 6, 2) := by decide +kernel
theorem dX6_init_104 : decode cX6_init 104 = .ok (.newarray .int, 2) := by decide +kernel
theorem dX6_init_106 : decode cX6_init 106 = .ok (.putfield 47, 3) := by decide +kernel
theorem dX6_init_109 : decode cX6_init 109 = .ok (.iconst 0, 1) := by decide +kernel
theorem dX6_init_110 : decode cX6_init 110 = .ok (.istore_n 1, 1) := by decide +kernel
theorem dX6_init_111 : decode cX6_init 111 = .ok (.iload_n 1, 1) := by decide +kernel
theorem dX6_init_112 : decode cX6_init 112 = .ok (.bipush 6, 2) := by decide +kernel
theorem dX6_init_114 : decode cX6_init 114 = .ok (.if_icmp .ge 60, 3) := by decide +kernel
theorem dX6_init_117 : decode cX6_init 117 = .ok (.aload_n 0, 1) := by decide +kernel
theorem dX6_init_118 : decode cX6_init 118 = .ok (.getfield 7, 3) := by decide +kernel
theorem dX6_init_121 : decode cX6_init 121 = .ok (.iconst 0, 1) := by decide +kernel
theorem dX6_init_122 : decode cX6_init 122 = .ok (.iload_n 1, 1) := by decide +kernel
theorem dX6_init_123 : decode cX6_init 123 = .ok (.iadd, 1) := by decide +kernel
theorem dX6_init_124 : decode cX6_init 124 = .ok (.iload_n 1, 1) := by decide +kernel
theorem dX6_init_125 : decode cX6_init 125 = .ok (.iconst 3, 1) := by decide +kernel
theorem dX6_init_126 : decode cX6_init 126 = .ok (.if_icmp .ge 7, 3) := by decide +kernel
theorem dX6_init_129 : decode cX6_init 129 = .ok (.iconst 1, 1) := by decide +kernel
theorem dX6_init_130 : decode cX6_init 130 = .ok (.goto 4, 3) := by decide +kernel
theorem dX6_init_133 : decode cX6_init 133 = .ok (.iconst 2, 1) := by decide +kernel
theorem dX6_init_134 : decode cX6_init 134 = .ok (.iastore, 1) := by decide +kernel
theorem dX6_init_135 : decode cX6_init 135 = .ok (.aload_n 0, 1) := by decide +kernel
theorem dX6_init_136 : decode cX6_init 136 = .ok (.getfield 7, 3) := by decide +kernel
theorem dX6_init_139 : decode cX6_init 139 = .ok (.bipush 6, 2) := by decide +kernel
theorem dX6_init_141 : decode cX6_init 141 = .ok (.iload_n 1, 1) := by decide +kernel
theorem dX6_init_142 : decode cX6_init 142 = .ok (.iadd, 1) := by decide +kernel
theorem dX6_init_143 : decode cX6_init 143 = .ok (.iload_n 1, 1) := by decide +kernel
theorem dX6_init_144 : decode cX6_init 144 = .ok (.iconst 1, 1) := by decide +kernel
theorem dX6_init_145 : decode cX6_init 145 = .ok (.iadd, 1) := by decide +kernel
theorem dX6_init_146 : decode cX6_init 146 = .ok (.iastore, 1) := by decide +kernel
theorem dX6_init_147 : decode cX6_init 147 = .ok (.aload_n 0, 1) := by decide +kernel
theorem dX6_init_148 : decode cX6_init 148 = .ok (.getfield 7, 3) := by decide +kernel
theorem dX6_init_151 : decode cX6_init 151 = .ok (.bipush 12, 2) := by decide +kernel
theorem dX6_init_153 : decode cX6_init 153 = .ok (.iload_n 1, 1) := by decide +kernel
theorem dX6_init_154 : decode cX6_init 154 = .ok (.iadd, 1) := by decide +kernel
theorem dX6_init_155 : decode cX6_init 155 = .ok (.iconst 3, 1) := by decide +kernel
theorem dX6_init_156 : decode cX6_init 156 = .ok (.iastore, 1) := by decide +kernel
theorem dX6_init_157 : decode cX6_init 157 = .ok (.aload_n 0, 1) := by decide +kernel
theorem dX6_init_158 : decode cX6_init 158 = .ok (.getfield 7, 3) := by decide +kernel
theorem dX6_init_161 : decode cX6_init 161 = .ok (.bipush 78, 2) := by decide +kernel
theorem dX6_init_163 : decode cX6_init 163 = .ok (.iload_n 1, 1) := by decide +kernel
theorem dX6_init_164 : decode cX6_init 164 = .ok (.iadd, 1) := by decide +kernel
theorem dX6_init_165 : decode cX6_init 165 = .ok (.bipush (-6), 2) := by decide +kernel
theorem dX6_init_167 : decode cX6_init 167 = .ok (.iastore, 1) := by decide +kernel
theorem dX6_init_168 : decode cX6_init 168 = .ok (.iinc 1 1, 3) := by decide +kernel
theorem dX6_init_171 : decode cX6_init 171 = .ok (.goto (-60), 3) := by decide +kernel
theorem dX6_init_174 : decode cX6_init 174 = .ok (.aload_n 0, 1) := by decide +kernel
theorem dX6_init_175 : decode cX6_init 175 = .ok (.getfield 7, 3) := by decide +kernel
theorem dX6_init_178 : decode cX6_init 178 = .ok (.sipush 132, 3) := by decide +kernel
theorem dX6_init_181 : decode cX6_init 181 = .ok (.bipush 100, 2) := by decide +kernel
theorem dX6_init_183 : decode cX6_init 183 = .ok (.iastore, 1) := by decide +kernel
theorem dX6_init_184 : decode cX6_init 184 = .ok (.return_, 1) := by decide +kernel
theorem dX6_in_0 : decode cX6_in 0 = .ok (.iload_n 0, 1) := by decide +kernel
theorem dX6_in_1 : decode cX6_in 1 = .ok (.iload_n 1, 1) := by decide +kernel
theorem dX6_in_2 : decode cX6_in 2 = .ok (.if_icmp .lt 12, 3) := by decide +kernel
theorem dX6_in_5 : decode cX6_in 5 = .ok (.iload_n 0, 1) := by decide +kernel
theorem dX6_in_6 : decode cX6_in 6 = .ok (.iload_n 2, 1) := by decide +kernel
theorem dX6_in_7 : decode cX6_in 7 = .ok (.if_icmp .gt 7, 3) := by decide +kernel
theorem dX6_in_10 : decode cX6_in 10 = .ok (.iconst 1, 1) := by decide +kernel
theorem dX6_in_11 : decode cX6_in 11 = .ok (.goto 4, 3) := by decide +kernel
theorem dX6_in_14 : decode cX6_in 14 = .ok (.iconst 0, 1) := by decide +kernel
theorem dX6_in_15 : decode cX6_in 15 = .ok (.ireturn, 1) := by decide +kernel
theorem dX6_isNode_0 : decode cX6_isNode 0 = .ok (.iload_n 0, 1) := by decide +kernel
theorem dX6_isNode_1 : decode cX6_isNode 1 = .ok (.iconst 0, 1) := by decide +kernel
theorem dX6_isNode_2 : decode cX6_isNode 2 = .ok (.iconst 5, 1) := by decide +kernel
theorem dX6_isNode_3 : decode cX6_isNode 3 = .ok (.invokestatic 50, 3) := by decide +kernel
theorem dX6_isNode_6 : decode cX6_isNode 6 = .ok (.ireturn, 1) := by decide +kernel
theorem dX6_is_0 : decode cX6_is 0 = .ok (.aload_n 0, 1) := by decide +kernel
theorem dX6_is_1 : decode cX6_is 1 = .ok (.getfield 7, 3) := by decide +kernel
theorem dX6_is_4 : decode cX6_is 4 = .ok (.bipush 30, 2) := by decide +kernel
theorem dX6_is_6 : decode cX6_is 6 = .ok (.iload_n 1, 1) := by decide +kernel
theorem dX6_is_7 : decode cX6_is 7 = .ok (.iadd, 1) := by decide +kernel
theorem dX6_is_8 : decode cX6_is 8 = .ok (.iaload, 1) := by decide +kernel
theorem dX6_is_9 : decode cX6_is 9 = .ok (.iload_n 2, 1) := by decide +kernel
theorem dX6_is_10 : decode cX6_is 10 = .ok (.if_icmp .ne 7, 3) := by decide +kernel
theorem dX6_is_13 : decode cX6_is 13 = .ok (.iconst 1, 1) := by decide +kernel
theorem dX6_is_14 : decode cX6_is 14 = .ok (.goto 4, 3) := by decide +kernel
theorem dX6_is_17 : decode cX6_is 17 = .ok (.iconst 0, 1) := by decide +kernel
theorem dX6_is_18 : decode cX6_is 18 = .ok (.ireturn, 1) := by decide +kernel
theorem dX6_isOut_0 : decode cX6_isOut 0 = .ok (.aload_n 0, 1) := by decide +kernel
theorem dX6_isOut_1 : decode cX6_isOut 1 = .ok (.iload_n 1, 1) := by decide +kernel
theorem dX6_isOut_2 : decode cX6_isOut 2 = .ok (.iconst 0, 1) := by decide +kernel
theorem dX6_isOut_3 : decode cX6_isOut 3 = .ok (.invokevirtual 54, 3) := by decide +kernel
theorem dX6_isOut_6 : decode cX6_isOut 6 = .ok (.ifCond .ne 13, 3) := by decide +kernel
theorem dX6_isOut_9 : decode cX6_isOut 9 = .ok (.aload_n 0, 1) := by decide +kernel
theorem dX6_isOut_10 : decode cX6_isOut 10 = .ok (.iload_n 1, 1) := by decide +kernel
theorem dX6_isOut_11 : decode cX6_isOut 11 = .ok (.bipush 6, 2) := by decide +kernel
theorem dX6_isOut_13 : decode cX6_isOut 13 = .ok (.invokevirtual 54, 3) := by decide +kernel
theorem dX6_isOut_16 : decode cX6_isOut 16 = .ok (.ifCond .eq 7, 3) := by decide +kernel
theorem dX6_isOut_19 : decode cX6_isOut 19 = .ok (.iconst 1, 1) := by decide +kernel
theorem dX6_isOut_20 : decode cX6_isOut 20 = .ok (.goto 4, 3) := by decide +kernel
theorem dX6_isOut_23 : decode cX6_isOut 23 = .ok (.iconst 0, 1) := by decide +kernel
theorem dX6_isOut_24 : decode cX6_isOut 24 = .ok (.ireturn, 1) := by decide +kernel
theorem dX6_plain_0 : decode cX6_plain 0 = .ok (.iload_n 0, 1) := by decide +kernel
theorem dX6_plain_1 : decode cX6_plain 1 = .ok (.ifCond .ge 8, 3) := by decide +kernel
theorem dX6_plain_4 : decode cX6_plain 4 = .ok (.iload_n 0, 1) := by decide +kernel
theorem dX6_plain_5 : decode cX6_plain 5 = .ok (.ineg, 1) := by decide +kernel
theorem dX6_plain_6 : decode cX6_plain 6 = .ok (.goto 4, 3) := by decide +kernel
theorem dX6_plain_9 : decode cX6_plain 9 = .ok (.iload_n 0, 1) := by decide +kernel
theorem dX6_plain_10 : decode cX6_plain 10 = .ok (.ireturn, 1) := by decide +kernel
theorem dX6_isTaken_0 : decode cX6_isTaken 0 = .ok (.iconst 0, 1) := by decide +kernel
theorem dX6_isTaken_1 : decode cX6_isTaken 1 = .ok (.istore_n 3, 1) := by decide +kernel
theorem dX6_isTaken_2 : decode cX6_isTaken 2 = .ok (.iconst 0, 1) := by decide +kernel
theorem dX6_isTaken_3 : decode cX6_isTaken 3 = .ok (.istore 4, 2) := by decide +kernel
theorem dX6_isTaken_5 : decode cX6_isTaken 5 = .ok (.iload 4, 2) := by decide +kernel
theorem dX6_isTaken_7 : decode cX6_isTaken 7 = .ok (.bipush 6, 2) := by decide +kernel
theorem dX6_isTaken_9 : decode cX6_isTaken 9 = .ok (.if_icmp .ge 39, 3) := by decide +kernel
theorem dX6_isTaken_12 : decode cX6_isTaken 12 = .ok (.iload_n 3, 1) := by decide +kernel
theorem dX6_isTaken_13 : decode cX6_isTaken 13 = .ok (.ifCond .ne 23, 3) := by decide +kernel
theorem dX6_isTaken_16 : decode cX6_isTaken 16 = .ok (.iload 4, 2) := by decide +kernel
theorem dX6_isTaken_18 : decode cX6_isTaken 18 = .ok (.iload_n 2, 1) := by decide +kernel
theorem dX6_isTaken_19 : decode cX6_isTaken 19 = .ok (.if_icmp .eq 21, 3) := by decide +kernel
theorem dX6_isTaken_22 : decode cX6_isTaken 22 = .ok (.aload_n 0, 1) := by decide +kernel
theorem dX6_isTaken_23 : decode cX6_isTaken 23 = .ok (.getfield 7, 3) := by decide +kernel
theorem dX6_isTaken_26 : decode cX6_isTaken 26 = .ok (.bipush 6, 2) := by decide +kernel
theorem dX6_isTaken_28 : decode cX6_isTaken 28 = .ok (.iload 4, 2) := by decide +kernel
theorem dX6_isTaken_30 : decode cX6_isTaken 30 = .ok (.iadd, 1) := by decide +kernel
theorem dX6_isTaken_31 : decode cX6_isTaken 31 = .ok (.iaload, 1) := by decide +kernel
theorem dX6_isTaken_32 : decode cX6_isTaken 32 = .ok (.iload_n 1, 1) := by decide +kernel
theorem dX6_isTaken_33 : decode cX6_isTaken 33 = .ok (.if_icmp .ne 7, 3) := by decide +kernel
theorem dX6_isTaken_36 : decode cX6_isTaken 36 = .ok (.iconst 1, 1) := by decide +kernel
theorem dX6_isTaken_37 : decode cX6_isTaken 37 = .ok (.goto 4, 3) := by decide +kernel
theorem dX6_isTaken_40 : decode cX6_isTaken 40 = .ok (.iconst 0, 1) := by decide +kernel
theorem dX6_isTaken_41 : decode cX6_isTaken 41 = .ok (.istore_n 3, 1) := by decide +kernel
theorem dX6_isTaken_42 : decode cX6_isTaken 42 = .ok (.iinc 4 1, 3) := by decide +kernel
theorem dX6_isTaken_45 : decode cX6_isTaken 45 = .ok (.goto (-40), 3) := by decide +kernel
theorem dX6_isTaken_48 : decode cX6_isTaken 48 = .ok (.iload_n 3, 1) := by decide +kernel
theorem dX6_isTaken_49 : decode cX6_isTaken 49 = .ok (.ireturn, 1) := by decide +kernel
theorem dX6_node_0 : decode cX6_node 0 = .ok (.iload_n 1, 1) := by decide +kernel
theorem dX6_node_1 : decode cX6_node 1 = .ok (.invokestatic 58, 3) := by decide +kernel
theorem dX6_node_4 : decode cX6_node 4 = .ok (.ifCond .ne 5, 3) := by decide +kernel
theorem dX6_node_7 : decode cX6_node 7 = .ok (.iconst (-1), 1) := by decide +kernel
theorem dX6_node_8 : decode cX6_node 8 = .ok (.ireturn, 1) := by decide +kernel
theorem dX6_node_9 : decode cX6_node 9 = .ok (.iload_n 2, 1) := by decide +kernel
theorem dX6_node_10 : decode cX6_node 10 = .ok (.iconst 1, 1) := by decide +kernel
theorem dX6_node_11 : decode cX6_node 11 = .ok (.iconst 2, 1) := by decide +kernel
theorem dX6_node_12 : decode cX6_node 12 = .ok (.invokestatic 50, 3) := by decide +kernel
theorem dX6_node_15 : decode cX6_node 15 = .ok (.ifCond .eq 24, 3) := by decide +kernel
theorem dX6_node_18 : decode cX6_node 18 = .ok (.iload_n 3, 1) := by decide +kernel
theorem dX6_node_19 : decode cX6_node 19 = .ok (.iconst 1, 1) := by decide +kernel
theorem dX6_node_20 : decode cX6_node 20 = .ok (.bipush 9, 2) := by decide +kernel
theorem dX6_node_22 : decode cX6_node 22 = .ok (.invokestatic 50, 3) := by decide +kernel
theorem dX6_node_25 : decode cX6_node 25 = .ok (.ifCond .eq 14, 3) := by decide +kernel
theorem dX6_node_28 : decode cX6_node 28 = .ok (.iload 4, 2) := by decide +kernel
theorem dX6_node_30 : decode cX6_node 30 = .ok (.iconst 1, 1) := by decide +kernel
theorem dX6_node_31 : decode cX6_node 31 = .ok (.bipush 9, 2) := by decide +kernel
theorem dX6_node_33 : decode cX6_node 33 = .ok (.invokestatic 50, 3) := by decide +kernel
theorem dX6_node_36 : decode cX6_node 36 = .ok (.ifCond .ne 6, 3) := by decide +kernel
theorem dX6_node_39 : decode cX6_node 39 = .ok (.bipush (-2), 2) := by decide +kernel
theorem dX6_node_41 : decode cX6_node 41 = .ok (.ireturn, 1) := by decide +kernel
theorem dX6_node_42 : decode cX6_node 42 = .ok (.aload_n 0, 1) := by decide +kernel
theorem dX6_node_43 : decode cX6_node 43 = .ok (.iload_n 1, 1) := by decide +kernel
theorem dX6_node_44 : decode cX6_node 44 = .ok (.iconst 0, 1) := by decide +kernel
theorem dX6_node_45 : decode cX6_node 45 = .ok (.invokevirtual 54, 3) := by decide +kernel
theorem dX6_node_48 : decode cX6_node 48 = .ok (.ifCond .eq 12, 3) := by decide +kernel
theorem dX6_node_51 : decode cX6_node 51 = .ok (.aload_n 0, 1) := by decide +kernel
theorem dX6_node_52 : decode cX6_node 52 = .ok (.iload_n 3, 1) := by decide +kernel
theorem dX6_node_53 : decode cX6_node 53 = .ok (.iload_n 1, 1) := by decide +kernel
theorem dX6_node_54 : decode cX6_node 54 = .ok (.invokevirtual 62, 3) := by decide +kernel
theorem dX6_node_57 : decode cX6_node 57 = .ok (.ifCond .eq 6, 3) := by decide +kernel
theorem dX6_node_60 : decode cX6_node 60 = .ok (.bipush (-3), 2) := by decide +kernel
theorem dX6_node_62 : decode cX6_node 62 = .ok (.ireturn, 1) := by decide +kernel
theorem dX6_node_63 : decode cX6_node 63 = .ok (.aload_n 0, 1) := by decide +kernel
theorem dX6_node_64 : decode cX6_node 64 = .ok (.getfield 7, 3) := by decide +kernel
theorem dX6_node_67 : decode cX6_node 67 = .ok (.bipush 6, 2) := by decide +kernel
theorem dX6_node_69 : decode cX6_node 69 = .ok (.iload_n 1, 1) := by decide +kernel
theorem dX6_node_70 : decode cX6_node 70 = .ok (.iadd, 1) := by decide +kernel
theorem dX6_node_71 : decode cX6_node 71 = .ok (.iaload, 1) := by decide +kernel
theorem dX6_node_72 : decode cX6_node 72 = .ok (.istore 5, 2) := by decide +kernel
theorem dX6_node_74 : decode cX6_node 74 = .ok (.aload_n 0, 1) := by decide +kernel
theorem dX6_node_75 : decode cX6_node 75 = .ok (.getfield 7, 3) := by decide +kernel
theorem dX6_node_78 : decode cX6_node 78 = .ok (.iconst 0, 1) := by decide +kernel
theorem dX6_node_79 : decode cX6_node 79 = .ok (.iload_n 1, 1) := by decide +kernel
theorem dX6_node_80 : decode cX6_node 80 = .ok (.iadd, 1) := by decide +kernel
theorem dX6_node_81 : decode cX6_node 81 = .ok (.iload_n 2, 1) := by decide +kernel
theorem dX6_node_82 : decode cX6_node 82 = .ok (.iastore, 1) := by decide +kernel
theorem dX6_node_83 : decode cX6_node 83 = .ok (.aload_n 0, 1) := by decide +kernel
theorem dX6_node_84 : decode cX6_node 84 = .ok (.getfield 7, 3) := by decide +kernel
theorem dX6_node_87 : decode cX6_node 87 = .ok (.bipush 6, 2) := by decide +kernel
theorem dX6_node_89 : decode cX6_node 89 = .ok (.iload_n 1, 1) := by decide +kernel
theorem dX6_node_90 : decode cX6_node 90 = .ok (.iadd, 1) := by decide +kernel
theorem dX6_node_91 : decode cX6_node 91 = .ok (.iload_n 3, 1) := by decide +kernel
theorem dX6_node_92 : decode cX6_node 92 = .ok (.iastore, 1) := by decide +kernel
theorem dX6_node_93 : decode cX6_node 93 = .ok (.aload_n 0, 1) := by decide +kernel
theorem dX6_node_94 : decode cX6_node 94 = .ok (.getfield 7, 3) := by decide +kernel
theorem dX6_node_97 : decode cX6_node 97 = .ok (.bipush 12, 2) := by decide +kernel
theorem dX6_node_99 : decode cX6_node 99 = .ok (.iload_n 1, 1) := by decide +kernel
theorem dX6_node_100 : decode cX6_node 100 = .ok (.iadd, 1) := by decide +kernel
theorem dX6_node_101 : decode cX6_node 101 = .ok (.iload 4, 2) := by decide +kernel
theorem dX6_node_103 : decode cX6_node 103 = .ok (.iastore, 1) := by decide +kernel
theorem dX6_node_104 : decode cX6_node 104 = .ok (.iload 5, 2) := by decide +kernel
theorem dX6_node_106 : decode cX6_node 106 = .ok (.ireturn, 1) := by decide +kernel
theorem dX6_clock_0 : decode cX6_clock 0 = .ok (.iload_n 1, 1) := by decide +kernel
theorem dX6_clock_1 : decode cX6_clock 1 = .ok (.invokestatic 58, 3) := by decide +kernel
theorem dX6_clock_4 : decode cX6_clock 4 = .ok (.ifCond .ne 5, 3) := by decide +kernel
theorem dX6_clock_7 : decode cX6_clock 7 = .ok (.iconst (-1), 1) := by decide +kernel
theorem dX6_clock_8 : decode cX6_clock 8 = .ok (.ireturn, 1) := by decide +kernel
theorem dX6_clock_9 : decode cX6_clock 9 = .ok (.iload_n 2, 1) := by decide +kernel
theorem dX6_clock_10 : decode cX6_clock 10 = .ok (.iconst 0, 1) := by decide +kernel
theorem dX6_clock_11 : decode cX6_clock 11 = .ok (.iconst 1, 1) := by decide +kernel
theorem dX6_clock_12 : decode cX6_clock 12 = .ok (.invokestatic 50, 3) := by decide +kernel
theorem dX6_clock_15 : decode cX6_clock 15 = .ok (.ifCond .eq 34, 3) := by decide +kernel
theorem dX6_clock_18 : decode cX6_clock 18 = .ok (.iload_n 3, 1) := by decide +kernel
theorem dX6_clock_19 : decode cX6_clock 19 = .ok (.iload_n 2, 1) := by decide +kernel
theorem dX6_clock_20 : decode cX6_clock 20 = .ok (.ifCond .ne 8, 3) := by decide +kernel
theorem dX6_clock_23 : decode cX6_clock 23 = .ok (.bipush (-50), 2) := by decide +kernel
theorem dX6_clock_25 : decode cX6_clock 25 = .ok (.goto 6, 3) := by decide +kernel
theorem dX6_clock_28 : decode cX6_clock 28 = .ok (.sipush (-400), 3) := by decide +kernel
theorem dX6_clock_31 : decode cX6_clock 31 = .ok (.iload_n 2, 1) := by decide +kernel
theorem dX6_clock_32 : decode cX6_clock 32 = .ok (.ifCond .ne 8, 3) := by decide +kernel
theorem dX6_clock_35 : decode cX6_clock 35 = .ok (.bipush 50, 2) := by decide +kernel
theorem dX6_clock_37 : decode cX6_clock 37 = .ok (.goto 6, 3) := by decide +kernel
theorem dX6_clock_40 : decode cX6_clock 40 = .ok (.sipush 400, 3) := by decide +kernel
theorem dX6_clock_43 : decode cX6_clock 43 = .ok (.invokestatic 50, 3) := by decide +kernel
theorem dX6_clock_46 : decode cX6_clock 46 = .ok (.ifCond .ne 6, 3) := by decide +kernel
theorem dX6_clock_49 : decode cX6_clock 49 = .ok (.bipush (-2), 2) := by decide +kernel
theorem dX6_clock_51 : decode cX6_clock 51 = .ok (.ireturn, 1) := by decide +kernel
theorem dX6_clock_52 : decode cX6_clock 52 = .ok (.aload_n 0, 1) := by decide +kernel
theorem dX6_clock_53 : decode cX6_clock 53 = .ok (.getfield 7, 3) := by decide +kernel
theorem dX6_clock_56 : decode cX6_clock 56 = .ok (.bipush 18, 2) := by decide +kernel
theorem dX6_clock_58 : decode cX6_clock 58 = .ok (.bipush 6, 2) := by decide +kernel
theorem dX6_clock_60 : decode cX6_clock 60 = .ok (.iload_n 2, 1) := by decide +kernel
theorem dX6_clock_61 : decode cX6_clock 61 = .ok (.imul, 1) := by decide +kernel
theorem dX6_clock_62 : decode cX6_clock 62 = .ok (.iadd, 1) := by decide +kernel
theorem dX6_clock_63 : decode cX6_clock 63 = .ok (.iload_n 1, 1) := by decide +kernel
theorem dX6_clock_64 : decode cX6_clock 64 = .ok (.iadd, 1) := by decide +kernel
theorem dX6_clock_65 : decode cX6_clock 65 = .ok (.iaload, 1) := by decide +kernel
theorem dX6_clock_66 : decode cX6_clock 66 = .ok (.istore 4, 2) := by decide +kernel
theorem dX6_clock_68 : decode cX6_clock 68 = .ok (.aload_n 0, 1) := by decide +kernel
theorem dX6_clock_69 : decode cX6_clock 69 = .ok (.getfield 7, 3) := by decide +kernel
theorem dX6_clock_72 : decode cX6_clock 72 = .ok (.bipush 18, 2) := by decide +kernel
theorem dX6_clock_74 : decode cX6_clock 74 = .ok (.bipush 6, 2) := by decide +kernel
theorem dX6_clock_76 : decode cX6_clock 76 = .ok (.iload_n 2, 1) := by decide +kernel
theorem dX6_clock_77 : decode cX6_clock 77 = .ok (.imul, 1) := by decide +kernel
theorem dX6_clock_78 : decode cX6_clock 78 = .ok (.iadd, 1) := by decide +kernel
theorem dX6_clock_79 : decode cX6_clock 79 = .ok (.iload_n 1, 1) := by decide +kernel
theorem dX6_clock_80 : decode cX6_clock 80 = .ok (.iadd, 1) := by decide +kernel
theorem dX6_clock_81 : decode cX6_clock 81 = .ok (.iload_n 3, 1) := by decide +kernel
theorem dX6_clock_82 : decode cX6_clock 82 = .ok (.iastore, 1) := by decide +kernel
theorem dX6_clock_83 : decode cX6_clock 83 = .ok (.iload 4, 2) := by decide +kernel
theorem dX6_clock_85 : decode cX6_clock 85 = .ok (.sipush 1000, 3) := by decide +kernel
theorem dX6_clock_88 : decode cX6_clock 88 = .ok (.iadd, 1) := by decide +kernel
theorem dX6_clock_89 : decode cX6_clock 89 = .ok (.ireturn, 1) := by decide +kernel
theorem dX6_bound_0 : decode cX6_bound 0 = .ok (.iload_n 1, 1) := by decide +kernel
theorem dX6_bound_1 : decode cX6_bound 1 = .ok (.iconst 0, 1) := by decide +kernel
theorem dX6_bound_2 : decode cX6_bound 2 = .ok (.sipush 500, 3) := by decide +kernel
theorem dX6_bound_5 : decode cX6_bound 5 = .ok (.invokestatic 50, 3) := by decide +kernel
theorem dX6_bound_8 : decode cX6_bound 8 = .ok (.ifCond .ne 6, 3) := by decide +kernel
theorem dX6_bound_11 : decode cX6_bound 11 = .ok (.bipush (-2), 2) := by decide +kernel
theorem dX6_bound_13 : decode cX6_bound 13 = .ok (.ireturn, 1) := by decide +kernel
theorem dX6_bound_14 : decode cX6_bound 14 = .ok (.aload_n 0, 1) := by decide +kernel
theorem dX6_bound_15 : decode cX6_bound 15 = .ok (.getfield 7, 3) := by decide +kernel
theorem dX6_bound_18 : decode cX6_bound 18 = .ok (.sipush 132, 3) := by decide +kernel
theorem dX6_bound_21 : decode cX6_bound 21 = .ok (.iaload, 1) := by decide +kernel
theorem dX6_bound_22 : decode cX6_bound 22 = .ok (.istore_n 2, 1) := by decide +kernel
theorem dX6_bound_23 : decode cX6_bound 23 = .ok (.aload_n 0, 1) := by decide +kernel
theorem dX6_bound_24 : decode cX6_bound 24 = .ok (.getfield 7, 3) := by decide +kernel
theorem dX6_bound_27 : decode cX6_bound 27 = .ok (.sipush 132, 3) := by decide +kernel
theorem dX6_bound_30 : decode cX6_bound 30 = .ok (.iload_n 1, 1) := by decide +kernel
theorem dX6_bound_31 : decode cX6_bound 31 = .ok (.iastore, 1) := by decide +kernel
theorem dX6_bound_32 : decode cX6_bound 32 = .ok (.iload_n 2, 1) := by decide +kernel
theorem dX6_bound_33 : decode cX6_bound 33 = .ok (.ireturn, 1) := by decide +kernel
theorem dX6_begin_0 : decode cX6_begin 0 = .ok (.aload_n 0, 1) := by decide +kernel
theorem dX6_begin_1 : decode cX6_begin 1 = .ok (.getfield 7, 3) := by decide +kernel
theorem dX6_begin_4 : decode cX6_begin 4 = .ok (.bipush 30, 2) := by decide +kernel
theorem dX6_begin_6 : decode cX6_begin 6 = .ok (.iload_n 1, 1) := by decide +kernel
theorem dX6_begin_7 : decode cX6_begin 7 = .ok (.iadd, 1) := by decide +kernel
theorem dX6_begin_8 : decode cX6_begin 8 = .ok (.iload_n 2, 1) := by decide +kernel
theorem dX6_begin_9 : decode cX6_begin 9 = .ok (.iastore, 1) := by decide +kernel
theorem dX6_begin_10 : decode cX6_begin 10 = .ok (.aload_n 0, 1) := by decide +kernel
theorem dX6_begin_11 : decode cX6_begin 11 = .ok (.getfield 7, 3) := by decide +kernel
theorem dX6_begin_14 : decode cX6_begin 14 = .ok (.bipush 36, 2) := by decide +kernel
theorem dX6_begin_16 : decode cX6_begin 16 = .ok (.iload_n 1, 1) := by decide +kernel
theorem dX6_begin_17 : decode cX6_begin 17 = .ok (.iadd, 1) := by decide +kernel
theorem dX6_begin_18 : decode cX6_begin 18 = .ok (.iconst 0, 1) := by decide +kernel
theorem dX6_begin_19 : decode cX6_begin 19 = .ok (.iastore, 1) := by decide +kernel
theorem dX6_begin_20 : decode cX6_begin 20 = .ok (.aload_n 0, 1) := by decide +kernel
theorem dX6_begin_21 : decode cX6_begin 21 = .ok (.getfield 7, 3) := by decide +kernel
theorem dX6_begin_24 : decode cX6_begin 24 = .ok (.bipush 42, 2) := by decide +kernel
theorem dX6_begin_26 : decode cX6_begin 26 = .ok (.iload_n 1, 1) := by decide +kernel
theorem dX6_begin_27 : decode cX6_begin 27 = .ok (.iadd, 1) := by decide +kernel
theorem dX6_begin_28 : decode cX6_begin 28 = .ok (.iconst 0, 1) := by decide +kernel
theorem dX6_begin_29 : decode cX6_begin 29 = .ok (.iastore, 1) := by decide +kernel
theorem dX6_begin_30 : decode cX6_begin 30 = .ok (.aload_n 0, 1) := by decide +kernel
theorem dX6_begin_31 : decode cX6_begin 31 = .ok (.getfield 7, 3) := by decide +kernel
theorem dX6_begin_34 : decode cX6_begin 34 = .ok (.bipush 48, 2) := by decide +kernel
theorem dX6_begin_36 : decode cX6_begin 36 = .ok (.iload_n 1, 1) := by decide +kernel
theorem dX6_begin_37 : decode cX6_begin 37 = .ok (.iadd, 1) := by decide +kernel
theorem dX6_begin_38 : decode cX6_begin 38 = .ok (.iconst 0, 1) := by decide +kernel
theorem dX6_begin_39 : decode cX6_begin 39 = .ok (.iastore, 1) := by decide +kernel
theorem dX6_begin_40 : decode cX6_begin 40 = .ok (.aload_n 0, 1) := by decide +kernel
theorem dX6_begin_41 : decode cX6_begin 41 = .ok (.getfield 7, 3) := by decide +kernel
theorem dX6_begin_44 : decode cX6_begin 44 = .ok (.bipush 54, 2) := by decide +kernel
theorem dX6_begin_46 : decode cX6_begin 46 = .ok (.iload_n 1, 1) := by decide +kernel
theorem dX6_begin_47 : decode cX6_begin 47 = .ok (.iadd, 1) := by decide +kernel
theorem dX6_begin_48 : decode cX6_begin 48 = .ok (.iconst 0, 1) := by decide +kernel
theorem dX6_begin_49 : decode cX6_begin 49 = .ok (.iastore, 1) := by decide +kernel
theorem dX6_begin_50 : decode cX6_begin 50 = .ok (.return_, 1) := by decide +kernel
theorem dX6_wake_0 : decode cX6_wake 0 = .ok (.iload_n 1, 1) := by decide +kernel
theorem dX6_wake_1 : decode cX6_wake 1 = .ok (.invokestatic 58, 3) := by decide +kernel
theorem dX6_wake_4 : decode cX6_wake 4 = .ok (.ifCond .ne 5, 3) := by decide +kernel
theorem dX6_wake_7 : decode cX6_wake 7 = .ok (.iconst (-1), 1) := by decide +kernel
theorem dX6_wake_8 : decode cX6_wake 8 = .ok (.ireturn, 1) := by decide +kernel
theorem dX6_wake_9 : decode cX6_wake 9 = .ok (.iload_n 2, 1) := by decide +kernel
theorem dX6_wake_10 : decode cX6_wake 10 = .ok (.sipush (-500), 3) := by decide +kernel
theorem dX6_wake_13 : decode cX6_wake 13 = .ok (.sipush 500, 3) := by decide +kernel
theorem dX6_wake_16 : decode cX6_wake 16 = .ok (.invokestatic 50, 3) := by decide +kernel
theorem dX6_wake_19 : decode cX6_wake 19 = .ok (.ifCond .ne 6, 3) := by decide +kernel
theorem dX6_wake_22 : decode cX6_wake 22 = .ok (.bipush (-2), 2) := by decide +kernel
theorem dX6_wake_24 : decode cX6_wake 24 = .ok (.ireturn, 1) := by decide +kernel
theorem dX6_wake_25 : decode cX6_wake 25 = .ok (.aload_n 0, 1) := by decide +kernel
theorem dX6_wake_26 : decode cX6_wake 26 = .ok (.iload_n 1, 1) := by decide +kernel
theorem dX6_wake_27 : decode cX6_wake 27 = .ok (.invokevirtual 65, 3) := by decide +kernel
theorem dX6_wake_30 : decode cX6_wake 30 = .ok (.ifCond .ne 6, 3) := by decide +kernel
theorem dX6_wake_33 : decode cX6_wake 33 = .ok (.bipush (-3), 2) := by decide +kernel
theorem dX6_wake_35 : decode cX6_wake 35 = .ok (.ireturn, 1) := by decide +kernel
theorem dX6_wake_36 : decode cX6_wake 36 = .ok (.aload_n 0, 1) := by decide +kernel
theorem dX6_wake_37 : decode cX6_wake 37 = .ok (.iload_n 1, 1) := by decide +kernel
theorem dX6_wake_38 : decode cX6_wake 38 = .ok (.iconst 1, 1) := by decide +kernel
theorem dX6_wake_39 : decode cX6_wake 39 = .ok (.invokevirtual 68, 3) := by decide +kernel
theorem dX6_wake_42 : decode cX6_wake 42 = .ok (.aload_n 0, 1) := by decide +kernel
theorem dX6_wake_43 : decode cX6_wake 43 = .ok (.getfield 7, 3) := by decide +kernel
theorem dX6_wake_46 : decode cX6_wake 46 = .ok (.bipush 60, 2) := by decide +kernel
theorem dX6_wake_48 : decode cX6_wake 48 = .ok (.iload_n 1, 1) := by decide +kernel
theorem dX6_wake_49 : decode cX6_wake 49 = .ok (.iadd, 1) := by decide +kernel
theorem dX6_wake_50 : decode cX6_wake 50 = .ok (.iload_n 2, 1) := by decide +kernel
theorem dX6_wake_51 : decode cX6_wake 51 = .ok (.iastore, 1) := by decide +kernel
theorem dX6_wake_52 : decode cX6_wake 52 = .ok (.aload_n 0, 1) := by decide +kernel
theorem dX6_wake_53 : decode cX6_wake 53 = .ok (.getfield 7, 3) := by decide +kernel
theorem dX6_wake_56 : decode cX6_wake 56 = .ok (.bipush 66, 2) := by decide +kernel
theorem dX6_wake_58 : decode cX6_wake 58 = .ok (.iload_n 1, 1) := by decide +kernel
theorem dX6_wake_59 : decode cX6_wake 59 = .ok (.iadd, 1) := by decide +kernel
theorem dX6_wake_60 : decode cX6_wake 60 = .ok (.iconst 0, 1) := by decide +kernel
theorem dX6_wake_61 : decode cX6_wake 61 = .ok (.iastore, 1) := by decide +kernel
theorem dX6_wake_62 : decode cX6_wake 62 = .ok (.aload_n 0, 1) := by decide +kernel
theorem dX6_wake_63 : decode cX6_wake 63 = .ok (.getfield 7, 3) := by decide +kernel
theorem dX6_wake_66 : decode cX6_wake 66 = .ok (.bipush 72, 2) := by decide +kernel
theorem dX6_wake_68 : decode cX6_wake 68 = .ok (.iload_n 1, 1) := by decide +kernel
theorem dX6_wake_69 : decode cX6_wake 69 = .ok (.iadd, 1) := by decide +kernel
theorem dX6_wake_70 : decode cX6_wake 70 = .ok (.iconst 0, 1) := by decide +kernel
theorem dX6_wake_71 : decode cX6_wake 71 = .ok (.iastore, 1) := by decide +kernel
theorem dX6_wake_72 : decode cX6_wake 72 = .ok (.iconst 0, 1) := by decide +kernel
theorem dX6_wake_73 : decode cX6_wake 73 = .ok (.istore_n 3, 1) := by decide +kernel
theorem dX6_wake_74 : decode cX6_wake 74 = .ok (.iconst 0, 1) := by decide +kernel
theorem dX6_wake_75 : decode cX6_wake 75 = .ok (.istore 4, 2) := by decide +kernel
theorem dX6_wake_77 : decode cX6_wake 77 = .ok (.iload 4, 2) := by decide +kernel
theorem dX6_wake_79 : decode cX6_wake 79 = .ok (.bipush 6, 2) := by decide +kernel
theorem dX6_wake_81 : decode cX6_wake 81 = .ok (.if_icmp .ge 26, 3) := by decide +kernel
theorem dX6_wake_84 : decode cX6_wake 84 = .ok (.iload_n 3, 1) := by decide +kernel
theorem dX6_wake_85 : decode cX6_wake 85 = .ok (.aload_n 0, 1) := by decide +kernel
theorem dX6_wake_86 : decode cX6_wake 86 = .ok (.iload 4, 2) := by decide +kernel
theorem dX6_wake_88 : decode cX6_wake 88 = .ok (.invokevirtual 65, 3) := by decide +kernel
theorem dX6_wake_91 : decode cX6_wake 91 = .ok (.ifCond .eq 7, 3) := by decide +kernel
theorem dX6_wake_94 : decode cX6_wake 94 = .ok (.iconst 0, 1) := by decide +kernel
theorem dX6_wake_95 : decode cX6_wake 95 = .ok (.goto 4, 3) := by decide +kernel
theorem dX6_wake_98 : decode cX6_wake 98 = .ok (.iconst 1, 1) := by decide +kernel
theorem dX6_wake_99 : decode cX6_wake 99 = .ok (.iadd, 1) := by decide +kernel
theorem dX6_wake_100 : decode cX6_wake 100 = .ok (.istore_n 3, 1) := by decide +kernel
theorem dX6_wake_101 : decode cX6_wake 101 = .ok (.iinc 4 1, 3) := by decide +kernel
theorem dX6_wake_104 : decode cX6_wake 104 = .ok (.goto (-27), 3) := by decide +kernel
theorem dX6_wake_107 : decode cX6_wake 107 = .ok (.iload_n 3, 1) := by decide +kernel
theorem dX6_wake_108 : decode cX6_wake 108 = .ok (.ireturn, 1) := by decide +kernel
theorem dX6_off_0 : decode cX6_off 0 = .ok (.iload_n 1, 1) := by decide +kernel
theorem dX6_off_1 : decode cX6_off 1 = .ok (.invokestatic 58, 3) := by decide +kernel
theorem dX6_off_4 : decode cX6_off 4 = .ok (.ifCond .ne 5, 3) := by decide +kernel
theorem dX6_off_7 : decode cX6_off 7 = .ok (.iconst (-1), 1) := by decide +kernel
theorem dX6_off_8 : decode cX6_off 8 = .ok (.ireturn, 1) := by decide +kernel
theorem dX6_off_9 : decode cX6_off 9 = .ok (.aload_n 0, 1) := by decide +kernel
theorem dX6_off_10 : decode cX6_off 10 = .ok (.getfield 7, 3) := by decide +kernel
theorem dX6_off_13 : decode cX6_off 13 = .ok (.bipush 30, 2) := by decide +kernel
theorem dX6_off_15 : decode cX6_off 15 = .ok (.iload_n 1, 1) := by decide +kernel
theorem dX6_off_16 : decode cX6_off 16 = .ok (.iadd, 1) := by decide +kernel
theorem dX6_off_17 : decode cX6_off 17 = .ok (.iaload, 1) := by decide +kernel
theorem dX6_off_18 : decode cX6_off 18 = .ok (.istore_n 2, 1) := by decide +kernel
theorem dX6_off_19 : decode cX6_off 19 = .ok (.aload_n 0, 1) := by decide +kernel
theorem dX6_off_20 : decode cX6_off 20 = .ok (.iload_n 1, 1) := by decide +kernel
theorem dX6_off_21 : decode cX6_off 21 = .ok (.iconst 0, 1) := by decide +kernel
theorem dX6_off_22 : decode cX6_off 22 = .ok (.invokevirtual 68, 3) := by decide +kernel
theorem dX6_off_25 : decode cX6_off 25 = .ok (.aload_n 0, 1) := by decide +kernel
theorem dX6_off_26 : decode cX6_off 26 = .ok (.getfield 7, 3) := by decide +kernel
theorem dX6_off_29 : decode cX6_off 29 = .ok (.bipush 60, 2) := by decide +kernel
theorem dX6_off_31 : decode cX6_off 31 = .ok (.iload_n 1, 1) := by decide +kernel
theorem dX6_off_32 : decode cX6_off 32 = .ok (.iadd, 1) := by decide +kernel
theorem dX6_off_33 : decode cX6_off 33 = .ok (.iconst 0, 1) := by decide +kernel
theorem dX6_off_34 : decode cX6_off 34 = .ok (.iastore, 1) := by decide +kernel
theorem dX6_off_35 : decode cX6_off 35 = .ok (.aload_n 0, 1) := by decide +kernel
theorem dX6_off_36 : decode cX6_off 36 = .ok (.getfield 7, 3) := by decide +kernel
theorem dX6_off_39 : decode cX6_off 39 = .ok (.bipush 66, 2) := by decide +kernel
theorem dX6_off_41 : decode cX6_off 41 = .ok (.iload_n 1, 1) := by decide +kernel
theorem dX6_off_42 : decode cX6_off 42 = .ok (.iadd, 1) := by decide +kernel
theorem dX6_off_43 : decode cX6_off 43 = .ok (.iconst 0, 1) := by decide +kernel
theorem dX6_off_44 : decode cX6_off 44 = .ok (.iastore, 1) := by decide +kernel
theorem dX6_off_45 : decode cX6_off 45 = .ok (.aload_n 0, 1) := by decide +kernel
theorem dX6_off_46 : decode cX6_off 46 = .ok (.getfield 7, 3) := by decide +kernel
theorem dX6_off_49 : decode cX6_off 49 = .ok (.bipush 72, 2) := by decide +kernel
theorem dX6_off_51 : decode cX6_off 51 = .ok (.iload_n 1, 1) := by decide +kernel
theorem dX6_off_52 : decode cX6_off 52 = .ok (.iadd, 1) := by decide +kernel
theorem dX6_off_53 : decode cX6_off 53 = .ok (.iconst 0, 1) := by decide +kernel
theorem dX6_off_54 : decode cX6_off 54 = .ok (.iastore, 1) := by decide +kernel
theorem dX6_off_55 : decode cX6_off 55 = .ok (.iload_n 2, 1) := by decide +kernel
theorem dX6_off_56 : decode cX6_off 56 = .ok (.ireturn, 1) := by decide +kernel
theorem dX6_lay_0 : decode cX6_lay 0 = .ok (.aload_n 0, 1) := by decide +kernel
theorem dX6_lay_1 : decode cX6_lay 1 = .ok (.getfield 72, 3) := by decide +kernel
theorem dX6_lay_4 : decode cX6_lay 4 = .ok (.istore_n 2, 1) := by decide +kernel
theorem dX6_lay_5 : decode cX6_lay 5 = .ok (.iload_n 2, 1) := by decide +kernel
theorem dX6_lay_6 : decode cX6_lay 6 = .ok (.ifCond .le 35, 3) := by decide +kernel
theorem dX6_lay_9 : decode cX6_lay 9 = .ok (.aload_n 0, 1) := by decide +kernel
theorem dX6_lay_10 : decode cX6_lay 10 = .ok (.getfield 20, 3) := by decide +kernel
theorem dX6_lay_13 : decode cX6_lay 13 = .ok (.iload_n 2, 1) := by decide +kernel
theorem dX6_lay_14 : decode cX6_lay 14 = .ok (.iconst 1, 1) := by decide +kernel
theorem dX6_lay_15 : decode cX6_lay 15 = .ok (.isub, 1) := by decide +kernel
theorem dX6_lay_16 : decode cX6_lay 16 = .ok (.iaload, 1) := by decide +kernel
theorem dX6_lay_17 : decode cX6_lay 17 = .ok (.iload_n 1, 1) := by decide +kernel
theorem dX6_lay_18 : decode cX6_lay 18 = .ok (.if_icmp .le 23, 3) := by decide +kernel
theorem dX6_lay_21 : decode cX6_lay 21 = .ok (.aload_n 0, 1) := by decide +kernel
theorem dX6_lay_22 : decode cX6_lay 22 = .ok (.getfield 20, 3) := by decide +kernel
theorem dX6_lay_25 : decode cX6_lay 25 = .ok (.iload_n 2, 1) := by decide +kernel
theorem dX6_lay_26 : decode cX6_lay 26 = .ok (.aload_n 0, 1) := by decide +kernel
theorem dX6_lay_27 : decode cX6_lay 27 = .ok (.getfield 20, 3) := by decide +kernel
theorem dX6_lay_30 : decode cX6_lay 30 = .ok (.iload_n 2, 1) := by decide +kernel
theorem dX6_lay_31 : decode cX6_lay 31 = .ok (.iconst 1, 1) := by decide +kernel
theorem dX6_lay_32 : decode cX6_lay 32 = .ok (.isub, 1) := by decide +kernel
theorem dX6_lay_33 : decode cX6_lay 33 = .ok (.iaload, 1) := by decide +kernel
theorem dX6_lay_34 : decode cX6_lay 34 = .ok (.iastore, 1) := by decide +kernel
theorem dX6_lay_35 : decode cX6_lay 35 = .ok (.iinc 2 (-1), 3) := by decide +kernel
theorem dX6_lay_38 : decode cX6_lay 38 = .ok (.goto (-33), 3) := by decide +kernel
theorem dX6_lay_41 : decode cX6_lay 41 = .ok (.aload_n 0, 1) := by decide +kernel
theorem dX6_lay_42 : decode cX6_lay 42 = .ok (.getfield 20, 3) := by decide +kernel
theorem dX6_lay_45 : decode cX6_lay 45 = .ok (.iload_n 2, 1) := by decide +kernel
theorem dX6_lay_46 : decode cX6_lay 46 = .ok (.iload_n 1, 1) := by decide +kernel
theorem dX6_lay_47 : decode cX6_lay 47 = .ok (.iastore, 1) := by decide +kernel
theorem dX6_lay_48 : decode cX6_lay 48 = .ok (.aload_n 0, 1) := by decide +kernel
theorem dX6_lay_49 : decode cX6_lay 49 = .ok (.dup, 1) := by decide +kernel
theorem dX6_lay_50 : decode cX6_lay 50 = .ok (.getfield 72, 3) := by decide +kernel
theorem dX6_lay_53 : decode cX6_lay 53 = .ok (.iconst 1, 1) := by decide +kernel
theorem dX6_lay_54 : decode cX6_lay 54 = .ok (.iadd, 1) := by decide +kernel
theorem dX6_lay_55 : decode cX6_lay 55 = .ok (.putfield 72, 3) := by decide +kernel
theorem dX6_lay_58 : decode cX6_lay 58 = .ok (.return_, 1) := by decide +kernel
theorem dX6_trimmed_0 : decode cX6_trimmed 0 = .ok (.aload_n 0, 1) := by decide +kernel
theorem dX6_trimmed_1 : decode cX6_trimmed 1 = .ok (.getfield 72, 3) := by decide +kernel
theorem dX6_trimmed_4 : decode cX6_trimmed 4 = .ok (.iconst 3, 1) := by decide +kernel
theorem dX6_trimmed_5 : decode cX6_trimmed 5 = .ok (.if_icmp .lt 7, 3) := by decide +kernel
theorem dX6_trimmed_8 : decode cX6_trimmed 8 = .ok (.iconst 1, 1) := by decide +kernel
theorem dX6_trimmed_9 : decode cX6_trimmed 9 = .ok (.goto 4, 3) := by decide +kernel
theorem dX6_trimmed_12 : decode cX6_trimmed 12 = .ok (.iconst 0, 1) := by decide +kernel
theorem dX6_trimmed_13 : decode cX6_trimmed 13 = .ok (.istore_n 1, 1) := by decide +kernel
theorem dX6_trimmed_14 : decode cX6_trimmed 14 = .ok (.aload_n 0, 1) := by decide +kernel
theorem dX6_trimmed_15 : decode cX6_trimmed 15 = .ok (.getfield 20, 3) := by decide +kernel
theorem dX6_trimmed_18 : decode cX6_trimmed 18 = .ok (.iload_n 1, 1) := by decide +kernel
theorem dX6_trimmed_19 : decode cX6_trimmed 19 = .ok (.iaload, 1) := by decide +kernel
theorem dX6_trimmed_20 : decode cX6_trimmed 20 = .ok (.aload_n 0, 1) := by decide +kernel
theorem dX6_trimmed_21 : decode cX6_trimmed 21 = .ok (.getfield 20, 3) := by decide +kernel
theorem dX6_trimmed_24 : decode cX6_trimmed 24 = .ok (.aload_n 0, 1) := by decide +kernel
theorem dX6_trimmed_25 : decode cX6_trimmed 25 = .ok (.getfield 72, 3) := by decide +kernel
theorem dX6_trimmed_28 : decode cX6_trimmed 28 = .ok (.iconst 1, 1) := by decide +kernel
theorem dX6_trimmed_29 : decode cX6_trimmed 29 = .ok (.isub, 1) := by decide +kernel
theorem dX6_trimmed_30 : decode cX6_trimmed 30 = .ok (.iload_n 1, 1) := by decide +kernel
theorem dX6_trimmed_31 : decode cX6_trimmed 31 = .ok (.isub, 1) := by decide +kernel
theorem dX6_trimmed_32 : decode cX6_trimmed 32 = .ok (.iaload, 1) := by decide +kernel
theorem dX6_trimmed_33 : decode cX6_trimmed 33 = .ok (.iadd, 1) := by decide +kernel
theorem dX6_trimmed_34 : decode cX6_trimmed 34 = .ok (.iconst 2, 1) := by decide +kernel
theorem dX6_trimmed_35 : decode cX6_trimmed 35 = .ok (.idiv, 1) := by decide +kernel
theorem dX6_trimmed_36 : decode cX6_trimmed 36 = .ok (.ireturn, 1) := by decide +kernel
theorem dX6_isFirst_0 : decode cX6_isFirst 0 = .ok (.aload_n 0, 1) := by decide +kernel
theorem dX6_isFirst_1 : decode cX6_isFirst 1 = .ok (.iload_n 1, 1) := by decide +kernel
theorem dX6_isFirst_2 : decode cX6_isFirst 2 = .ok (.iconst 2, 1) := by decide +kernel
theorem dX6_isFirst_3 : decode cX6_isFirst 3 = .ok (.invokevirtual 54, 3) := by decide +kernel
theorem dX6_isFirst_6 : decode cX6_isFirst 6 = .ok (.ifCond .eq 20, 3) := by decide +kernel
theorem dX6_isFirst_9 : decode cX6_isFirst 9 = .ok (.aload_n 0, 1) := by decide +kernel
theorem dX6_isFirst_10 : decode cX6_isFirst 10 = .ok (.getfield 7, 3) := by decide +kernel
theorem dX6_isFirst_13 : decode cX6_isFirst 13 = .ok (.bipush 36, 2) := by decide +kernel
theorem dX6_isFirst_15 : decode cX6_isFirst 15 = .ok (.iload_n 1, 1) := by decide +kernel
theorem dX6_isFirst_16 : decode cX6_isFirst 16 = .ok (.iadd, 1) := by decide +kernel
theorem dX6_isFirst_17 : decode cX6_isFirst 17 = .ok (.iaload, 1) := by decide +kernel
theorem dX6_isFirst_18 : decode cX6_isFirst 18 = .ok (.iconst 1, 1) := by decide +kernel
theorem dX6_isFirst_19 : decode cX6_isFirst 19 = .ok (.if_icmp .ne 7, 3) := by decide +kernel
theorem dX6_isFirst_22 : decode cX6_isFirst 22 = .ok (.iconst 1, 1) := by decide +kernel
theorem dX6_isFirst_23 : decode cX6_isFirst 23 = .ok (.goto 4, 3) := by decide +kernel
theorem dX6_isFirst_26 : decode cX6_isFirst 26 = .ok (.iconst 0, 1) := by decide +kernel
theorem dX6_isFirst_27 : decode cX6_isFirst 27 = .ok (.ireturn, 1) := by decide +kernel
theorem dX6_laySenders_0 : decode cX6_laySenders 0 = .ok (.iconst 0, 1) := by decide +kernel
theorem dX6_laySenders_1 : decode cX6_laySenders 1 = .ok (.istore_n 1, 1) := by decide +kernel
theorem dX6_laySenders_2 : decode cX6_laySenders 2 = .ok (.iload_n 1, 1) := by decide +kernel
theorem dX6_laySenders_3 : decode cX6_laySenders 3 = .ok (.bipush 6, 2) := by decide +kernel
theorem dX6_laySenders_5 : decode cX6_laySenders 5 = .ok (.if_icmp .ge 99, 3) := by decide +kernel
theorem dX6_laySenders_8 : decode cX6_laySenders 8 = .ok (.aload_n 0, 1) := by decide +kernel
theorem dX6_laySenders_9 : decode cX6_laySenders 9 = .ok (.getfield 23, 3) := by decide +kernel
theorem dX6_laySenders_12 : decode cX6_laySenders 12 = .ok (.iload_n 1, 1) := by decide +kernel
theorem dX6_laySenders_13 : decode cX6_laySenders 13 = .ok (.aload_n 0, 1) := by decide +kernel
theorem dX6_laySenders_14 : decode cX6_laySenders 14 = .ok (.iload_n 1, 1) := by decide +kernel
theorem dX6_laySenders_15 : decode cX6_laySenders 15 = .ok (.iconst 2, 1) := by decide +kernel
theorem dX6_laySenders_16 : decode cX6_laySenders 16 = .ok (.invokevirtual 54, 3) := by decide +kernel
theorem dX6_laySenders_19 : decode cX6_laySenders 19 = .ok (.ifCond .eq 16, 3) := by decide +kernel
theorem dX6_laySenders_22 : decode cX6_laySenders 22 = .ok (.aload_n 0, 1) := by decide +kernel
theorem dX6_laySenders_23 : decode cX6_laySenders 23 = .ok (.getfield 7, 3) := by decide +kernel
theorem dX6_laySenders_26 : decode cX6_laySenders 26 = .ok (.bipush 36, 2) := by decide +kernel
theorem dX6_laySenders_28 : decode cX6_laySenders 28 = .ok (.iload_n 1, 1) := by decide +kernel
theorem dX6_laySenders_29 : decode cX6_laySenders 29 = .ok (.iadd, 1) := by decide +kernel
theorem dX6_laySenders_30 : decode cX6_laySenders 30 = .ok (.iaload, 1) := by decide +kernel
theorem dX6_laySenders_31 : decode cX6_laySenders 31 = .ok (.iconst 1, 1) := by decide +kernel
theorem dX6_laySenders_32 : decode cX6_laySenders 32 = .ok (.if_icmp .ge 21, 3) := by decide +kernel
theorem dX6_laySenders_35 : decode cX6_laySenders 35 = .ok (.aload_n 0, 1) := by decide +kernel
theorem dX6_laySenders_36 : decode cX6_laySenders 36 = .ok (.iload_n 1, 1) := by decide +kernel
theorem dX6_laySenders_37 : decode cX6_laySenders 37 = .ok (.iconst 3, 1) := by decide +kernel
theorem dX6_laySenders_38 : decode cX6_laySenders 38 = .ok (.invokevirtual 54, 3) := by decide +kernel
theorem dX6_laySenders_41 : decode cX6_laySenders 41 = .ok (.ifCond .ne 12, 3) := by decide +kernel
theorem dX6_laySenders_44 : decode cX6_laySenders 44 = .ok (.aload_n 0, 1) := by decide +kernel
theorem dX6_laySenders_45 : decode cX6_laySenders 45 = .ok (.iload_n 1, 1) := by decide +kernel
theorem dX6_laySenders_46 : decode cX6_laySenders 46 = .ok (.iconst 4, 1) := by decide +kernel
theorem dX6_laySenders_47 : decode cX6_laySenders 47 = .ok (.invokevirtual 54, 3) := by decide +kernel
theorem dX6_laySenders_50 : decode cX6_laySenders 50 = .ok (.ifCond .eq 7, 3) := by decide +kernel
theorem dX6_laySenders_53 : decode cX6_laySenders 53 = .ok (.iconst 1, 1) := by decide +kernel
theorem dX6_laySenders_54 : decode cX6_laySenders 54 = .ok (.goto 4, 3) := by decide +kernel
theorem dX6_laySenders_57 : decode cX6_laySenders 57 = .ok (.iconst 0, 1) := by decide +kernel
theorem dX6_laySenders_58 : decode cX6_laySenders 58 = .ok (.bastore, 1) := by decide +kernel
theorem dX6_laySenders_59 : decode cX6_laySenders 59 = .ok (.aload_n 0, 1) := by decide +kernel
theorem dX6_laySenders_60 : decode cX6_laySenders 60 = .ok (.getfield 26, 3) := by decide +kernel
theorem dX6_laySenders_63 : decode cX6_laySenders 63 = .ok (.iload_n 1, 1) := by decide +kernel
theorem dX6_laySenders_64 : decode cX6_laySenders 64 = .ok (.aload_n 0, 1) := by decide +kernel
theorem dX6_laySenders_65 : decode cX6_laySenders 65 = .ok (.iload_n 1, 1) := by decide +kernel
theorem dX6_laySenders_66 : decode cX6_laySenders 66 = .ok (.iconst 2, 1) := by decide +kernel
theorem dX6_laySenders_67 : decode cX6_laySenders 67 = .ok (.invokevirtual 54, 3) := by decide +kernel
theorem dX6_laySenders_70 : decode cX6_laySenders 70 = .ok (.ifCond .eq 19, 3) := by decide +kernel
theorem dX6_laySenders_73 : decode cX6_laySenders 73 = .ok (.aload_n 0, 1) := by decide +kernel
theorem dX6_laySenders_74 : decode cX6_laySenders 74 = .ok (.getfield 7, 3) := by decide +kernel
theorem dX6_laySenders_77 : decode cX6_laySenders 77 = .ok (.bipush 36, 2) := by decide +kernel
theorem dX6_laySenders_79 : decode cX6_laySenders 79 = .ok (.iload_n 1, 1) := by decide +kernel
theorem dX6_laySenders_80 : decode cX6_laySenders 80 = .ok (.iadd, 1) := by decide +kernel
theorem dX6_laySenders_81 : decode cX6_laySenders 81 = .ok (.iaload, 1) := by decide +kernel
theorem dX6_laySenders_82 : decode cX6_laySenders 82 = .ok (.ifCond .ne 7, 3) := by decide +kernel
theorem dX6_laySenders_85 : decode cX6_laySenders 85 = .ok (.iconst 1, 1) := by decide +kernel
theorem dX6_laySenders_86 : decode cX6_laySenders 86 = .ok (.goto 4, 3) := by decide +kernel
theorem dX6_laySenders_89 : decode cX6_laySenders 89 = .ok (.iconst 0, 1) := by decide +kernel
theorem dX6_laySenders_90 : decode cX6_laySenders 90 = .ok (.bastore, 1) := by decide +kernel
theorem dX6_laySenders_91 : decode cX6_laySenders 91 = .ok (.aload_n 0, 1) := by decide +kernel
theorem dX6_laySenders_92 : decode cX6_laySenders 92 = .ok (.getfield 32, 3) := by decide +kernel
theorem dX6_laySenders_95 : decode cX6_laySenders 95 = .ok (.iload_n 1, 1) := by decide +kernel
theorem dX6_laySenders_96 : decode cX6_laySenders 96 = .ok (.iconst 0, 1) := by decide +kernel
theorem dX6_laySenders_97 : decode cX6_laySenders 97 = .ok (.bastore, 1) := by decide +kernel
theorem dX6_laySenders_98 : decode cX6_laySenders 98 = .ok (.iinc 1 1, 3) := by decide +kernel
theorem dX6_laySenders_101 : decode cX6_laySenders 101 = .ok (.goto (-99), 3) := by decide +kernel
theorem dX6_laySenders_104 : decode cX6_laySenders 104 = .ok (.iconst 0, 1) := by decide +kernel
theorem dX6_laySenders_105 : decode cX6_laySenders 105 = .ok (.istore_n 1, 1) := by decide +kernel
theorem dX6_laySenders_106 : decode cX6_laySenders 106 = .ok (.iload_n 1, 1) := by decide +kernel
theorem dX6_laySenders_107 : decode cX6_laySenders 107 = .ok (.bipush 6, 2) := by decide +kernel
theorem dX6_laySenders_109 : decode cX6_laySenders 109 = .ok (.if_icmp .ge 36, 3) := by decide +kernel
theorem dX6_laySenders_112 : decode cX6_laySenders 112 = .ok (.aload_n 0, 1) := by decide +kernel
theorem dX6_laySenders_113 : decode cX6_laySenders 113 = .ok (.getfield 29, 3) := by decide +kernel
theorem dX6_laySenders_116 : decode cX6_laySenders 116 = .ok (.iload_n 1, 1) := by decide +kernel
theorem dX6_laySenders_117 : decode cX6_laySenders 117 = .ok (.aload_n 0, 1) := by decide +kernel
theorem dX6_laySenders_118 : decode cX6_laySenders 118 = .ok (.iload_n 1, 1) := by decide +kernel
theorem dX6_laySenders_119 : decode cX6_laySenders 119 = .ok (.invokevirtual 76, 3) := by decide +kernel
theorem dX6_laySenders_122 : decode cX6_laySenders 122 = .ok (.ifCond .eq 15, 3) := by decide +kernel
theorem dX6_laySenders_125 : decode cX6_laySenders 125 = .ok (.aload_n 0, 1) := by decide +kernel
theorem dX6_laySenders_126 : decode cX6_laySenders 126 = .ok (.iload_n 1, 1) := by decide +kernel
theorem dX6_laySenders_127 : decode cX6_laySenders 127 = .ok (.invokevirtual 79, 3) := by decide +kernel
theorem dX6_laySenders_130 : decode cX6_laySenders 130 = .ok (.ifCond .eq 7, 3) := by decide +kernel
theorem dX6_laySenders_133 : decode cX6_laySenders 133 = .ok (.iconst 1, 1) := by decide +kernel
theorem dX6_laySenders_134 : decode cX6_laySenders 134 = .ok (.goto 4, 3) := by decide +kernel
theorem dX6_laySenders_137 : decode cX6_laySenders 137 = .ok (.iconst 0, 1) := by decide +kernel
theorem dX6_laySenders_138 : decode cX6_laySenders 138 = .ok (.bastore, 1) := by decide +kernel
theorem dX6_laySenders_139 : decode cX6_laySenders 139 = .ok (.iinc 1 1, 3) := by decide +kernel
theorem dX6_laySenders_142 : decode cX6_laySenders 142 = .ok (.goto (-36), 3) := by decide +kernel
theorem dX6_laySenders_145 : decode cX6_laySenders 145 = .ok (.iconst 0, 1) := by decide +kernel
theorem dX6_laySenders_146 : decode cX6_laySenders 146 = .ok (.istore_n 1, 1) := by decide +kernel
theorem dX6_laySenders_147 : decode cX6_laySenders 147 = .ok (.iload_n 1, 1) := by decide +kernel
theorem dX6_laySenders_148 : decode cX6_laySenders 148 = .ok (.bipush 6, 2) := by decide +kernel
theorem dX6_laySenders_150 : decode cX6_laySenders 150 = .ok (.if_icmp .ge 38, 3) := by decide +kernel
theorem dX6_laySenders_153 : decode cX6_laySenders 153 = .ok (.aload_n 0, 1) := by decide +kernel
theorem dX6_laySenders_154 : decode cX6_laySenders 154 = .ok (.getfield 29, 3) := by decide +kernel
theorem dX6_laySenders_157 : decode cX6_laySenders 157 = .ok (.iload_n 1, 1) := by decide +kernel
theorem dX6_laySenders_158 : decode cX6_laySenders 158 = .ok (.baload, 1) := by decide +kernel
theorem dX6_laySenders_159 : decode cX6_laySenders 159 = .ok (.ifCond .eq 23, 3) := by decide +kernel
theorem dX6_laySenders_162 : decode cX6_laySenders 162 = .ok (.aload_n 0, 1) := by decide +kernel
theorem dX6_laySenders_163 : decode cX6_laySenders 163 = .ok (.getfield 23, 3) := by decide +kernel
theorem dX6_laySenders_166 : decode cX6_laySenders 166 = .ok (.iload_n 1, 1) := by decide +kernel
theorem dX6_laySenders_167 : decode cX6_laySenders 167 = .ok (.iconst 0, 1) := by decide +kernel
theorem dX6_laySenders_168 : decode cX6_laySenders 168 = .ok (.bastore, 1) := by decide +kernel
theorem dX6_laySenders_169 : decode cX6_laySenders 169 = .ok (.aload_n 0, 1) := by decide +kernel
theorem dX6_laySenders_170 : decode cX6_laySenders 170 = .ok (.iload_n 1, 1) := by decide +kernel
theorem dX6_laySenders_171 : decode cX6_laySenders 171 = .ok (.iconst 1, 1) := by decide +kernel
theorem dX6_laySenders_172 : decode cX6_laySenders 172 = .ok (.invokevirtual 68, 3) := by decide +kernel
theorem dX6_laySenders_175 : decode cX6_laySenders 175 = .ok (.aload_n 0, 1) := by decide +kernel
theorem dX6_laySenders_176 : decode cX6_laySenders 176 = .ok (.getfield 32, 3) := by decide +kernel
theorem dX6_laySenders_179 : decode cX6_laySenders 179 = .ok (.iload_n 1, 1) := by decide +kernel
theorem dX6_laySenders_180 : decode cX6_laySenders 180 = .ok (.iconst 1, 1) := by decide +kernel
theorem dX6_laySenders_181 : decode cX6_laySenders 181 = .ok (.bastore, 1) := by decide +kernel
theorem dX6_laySenders_182 : decode cX6_laySenders 182 = .ok (.iinc 1 1, 3) := by decide +kernel
theorem dX6_laySenders_185 : decode cX6_laySenders 185 = .ok (.goto (-38), 3) := by decide +kernel
theorem dX6_laySenders_188 : decode cX6_laySenders 188 = .ok (.return_, 1) := by decide +kernel
theorem dX6_givesWay_0 : decode cX6_givesWay 0 = .ok (.iconst 0, 1) := by decide +kernel
theorem dX6_givesWay_1 : decode cX6_givesWay 1 = .ok (.istore_n 2, 1) := by decide +kernel
theorem dX6_givesWay_2 : decode cX6_givesWay 2 = .ok (.iconst 0, 1) := by decide +kernel
theorem dX6_givesWay_3 : decode cX6_givesWay 3 = .ok (.istore_n 3, 1) := by decide +kernel
theorem dX6_givesWay_4 : decode cX6_givesWay 4 = .ok (.iload_n 3, 1) := by decide +kernel
theorem dX6_givesWay_5 : decode cX6_givesWay 5 = .ok (.bipush 6, 2) := by decide +kernel
theorem dX6_givesWay_7 : decode cX6_givesWay 7 = .ok (.if_icmp .ge 62, 3) := by decide +kernel
theorem dX6_givesWay_10 : decode cX6_givesWay 10 = .ok (.iload_n 2, 1) := by decide +kernel
theorem dX6_givesWay_11 : decode cX6_givesWay 11 = .ok (.ifCond .ne 46, 3) := by decide +kernel
theorem dX6_givesWay_14 : decode cX6_givesWay 14 = .ok (.iload_n 3, 1) := by decide +kernel
theorem dX6_givesWay_15 : decode cX6_givesWay 15 = .ok (.iload_n 1, 1) := by decide +kernel
theorem dX6_givesWay_16 : decode cX6_givesWay 16 = .ok (.if_icmp .eq 45, 3) := by decide +kernel
theorem dX6_givesWay_19 : decode cX6_givesWay 19 = .ok (.aload_n 0, 1) := by decide +kernel
theorem dX6_givesWay_20 : decode cX6_givesWay 20 = .ok (.getfield 23, 3) := by decide +kernel
theorem dX6_givesWay_23 : decode cX6_givesWay 23 = .ok (.iload_n 3, 1) := by decide +kernel
theorem dX6_givesWay_24 : decode cX6_givesWay 24 = .ok (.baload, 1) := by decide +kernel
theorem dX6_givesWay_25 : decode cX6_givesWay 25 = .ok (.ifCond .eq 36, 3) := by decide +kernel
theorem dX6_givesWay_28 : decode cX6_givesWay 28 = .ok (.aload_n 0, 1) := by decide +kernel
theorem dX6_givesWay_29 : decode cX6_givesWay 29 = .ok (.iload_n 3, 1) := by decide +kernel
theorem dX6_givesWay_30 : decode cX6_givesWay 30 = .ok (.invokevirtual 76, 3) := by decide +kernel
theorem dX6_givesWay_33 : decode cX6_givesWay 33 = .ok (.ifCond .eq 24, 3) := by decide +kernel
theorem dX6_givesWay_36 : decode cX6_givesWay 36 = .ok (.aload_n 0, 1) := by decide +kernel
theorem dX6_givesWay_37 : decode cX6_givesWay 37 = .ok (.getfield 7, 3) := by decide +kernel
theorem dX6_givesWay_40 : decode cX6_givesWay 40 = .ok (.bipush 6, 2) := by decide +kernel
theorem dX6_givesWay_42 : decode cX6_givesWay 42 = .ok (.iload_n 3, 1) := by decide +kernel
theorem dX6_givesWay_43 : decode cX6_givesWay 43 = .ok (.iadd, 1) := by decide +kernel
theorem dX6_givesWay_44 : decode cX6_givesWay 44 = .ok (.iaload, 1) := by decide +kernel
theorem dX6_givesWay_45 : decode cX6_givesWay 45 = .ok (.aload_n 0, 1) := by decide +kernel
theorem dX6_givesWay_46 : decode cX6_givesWay 46 = .ok (.getfield 7, 3) := by decide +kernel
theorem dX6_givesWay_49 : decode cX6_givesWay 49 = .ok (.bipush 6, 2) := by decide +kernel
theorem dX6_givesWay_51 : decode cX6_givesWay 51 = .ok (.iload_n 1, 1) := by decide +kernel
theorem dX6_givesWay_52 : decode cX6_givesWay 52 = .ok (.iadd, 1) := by decide +kernel
theorem dX6_givesWay_53 : decode cX6_givesWay 53 = .ok (.iaload, 1) := by decide +kernel
theorem dX6_givesWay_54 : decode cX6_givesWay 54 = .ok (.if_icmp .ge 7, 3) := by decide +kernel
theorem dX6_givesWay_57 : decode cX6_givesWay 57 = .ok (.iconst 1, 1) := by decide +kernel
theorem dX6_givesWay_58 : decode cX6_givesWay 58 = .ok (.goto 4, 3) := by decide +kernel
theorem dX6_givesWay_61 : decode cX6_givesWay 61 = .ok (.iconst 0, 1) := by decide +kernel
theorem dX6_givesWay_62 : decode cX6_givesWay 62 = .ok (.istore_n 2, 1) := by decide +kernel
theorem dX6_givesWay_63 : decode cX6_givesWay 63 = .ok (.iinc 3 1, 3) := by decide +kernel
theorem dX6_givesWay_66 : decode cX6_givesWay 66 = .ok (.goto (-62), 3) := by decide +kernel
theorem dX6_givesWay_69 : decode cX6_givesWay 69 = .ok (.iload_n 2, 1) := by decide +kernel
theorem dX6_givesWay_70 : decode cX6_givesWay 70 = .ok (.ireturn, 1) := by decide +kernel
theorem dX6_hear_0 : decode cX6_hear 0 = .ok (.aload_n 0, 1) := by decide +kernel
theorem dX6_hear_1 : decode cX6_hear 1 = .ok (.getfield 35, 3) := by decide +kernel
theorem dX6_hear_4 : decode cX6_hear 4 = .ok (.iload_n 1, 1) := by decide +kernel
theorem dX6_hear_5 : decode cX6_hear 5 = .ok (.iconst 0, 1) := by decide +kernel
theorem dX6_hear_6 : decode cX6_hear 6 = .ok (.iastore, 1) := by decide +kernel
theorem dX6_hear_7 : decode cX6_hear 7 = .ok (.aload_n 0, 1) := by decide +kernel
theorem dX6_hear_8 : decode cX6_hear 8 = .ok (.getfield 38, 3) := by decide +kernel
theorem dX6_hear_11 : decode cX6_hear 11 = .ok (.iload_n 1, 1) := by decide +kernel
theorem dX6_hear_12 : decode cX6_hear 12 = .ok (.iconst 0, 1) := by decide +kernel
theorem dX6_hear_13 : decode cX6_hear 13 = .ok (.iastore, 1) := by decide +kernel
theorem dX6_hear_14 : decode cX6_hear 14 = .ok (.aload_n 0, 1) := by decide +kernel
theorem dX6_hear_15 : decode cX6_hear 15 = .ok (.getfield 41, 3) := by decide +kernel
theorem dX6_hear_18 : decode cX6_hear 18 = .ok (.iload_n 1, 1) := by decide +kernel
theorem dX6_hear_19 : decode cX6_hear 19 = .ok (.bipush (-6), 2) := by decide +kernel
theorem dX6_hear_21 : decode cX6_hear 21 = .ok (.iastore, 1) := by decide +kernel
theorem dX6_hear_22 : decode cX6_hear 22 = .ok (.iconst 0, 1) := by decide +kernel
theorem dX6_hear_23 : decode cX6_hear 23 = .ok (.istore_n 2, 1) := by decide +kernel
theorem dX6_hear_24 : decode cX6_hear 24 = .ok (.iload_n 2, 1) := by decide +kernel
theorem dX6_hear_25 : decode cX6_hear 25 = .ok (.bipush 6, 2) := by decide +kernel
theorem dX6_hear_27 : decode cX6_hear 27 = .ok (.if_icmp .ge 156, 3) := by decide +kernel
theorem dX6_hear_30 : decode cX6_hear 30 = .ok (.aload_n 0, 1) := by decide +kernel
theorem dX6_hear_31 : decode cX6_hear 31 = .ok (.iload_n 1, 1) := by decide +kernel
theorem dX6_hear_32 : decode cX6_hear 32 = .ok (.invokevirtual 65, 3) := by decide +kernel
theorem dX6_hear_35 : decode cX6_hear 35 = .ok (.ifCond .ne 148, 3) := by decide +kernel
theorem dX6_hear_38 : decode cX6_hear 38 = .ok (.iload_n 2, 1) := by decide +kernel
theorem dX6_hear_39 : decode cX6_hear 39 = .ok (.iload_n 1, 1) := by decide +kernel
theorem dX6_hear_40 : decode cX6_hear 40 = .ok (.if_icmp .eq 137, 3) := by decide +kernel
theorem dX6_hear_43 : decode cX6_hear 43 = .ok (.aload_n 0, 1) := by decide +kernel
theorem dX6_hear_44 : decode cX6_hear 44 = .ok (.getfield 23, 3) := by decide +kernel
theorem dX6_hear_47 : decode cX6_hear 47 = .ok (.iload_n 2, 1) := by decide +kernel
theorem dX6_hear_48 : decode cX6_hear 48 = .ok (.baload, 1) := by decide +kernel
theorem dX6_hear_49 : decode cX6_hear 49 = .ok (.ifCond .eq 128, 3) := by decide +kernel
theorem dX6_hear_52 : decode cX6_hear 52 = .ok (.aload_n 0, 1) := by decide +kernel
theorem dX6_hear_53 : decode cX6_hear 53 = .ok (.getfield 35, 3) := by decide +kernel
theorem dX6_hear_56 : decode cX6_hear 56 = .ok (.iload_n 1, 1) := by decide +kernel
theorem dX6_hear_57 : decode cX6_hear 57 = .ok (.dup2, 1) := by decide +kernel
theorem dX6_hear_58 : decode cX6_hear 58 = .ok (.iaload, 1) := by decide +kernel
theorem dX6_hear_59 : decode cX6_hear 59 = .ok (.iconst 1, 1) := by decide +kernel
theorem dX6_hear_60 : decode cX6_hear 60 = .ok (.iload_n 2, 1) := by decide +kernel
theorem dX6_hear_61 : decode cX6_hear 61 = .ok (.ishl, 1) := by decide +kernel
theorem dX6_hear_62 : decode cX6_hear 62 = .ok (.ior, 1) := by decide +kernel
theorem dX6_hear_63 : decode cX6_hear 63 = .ok (.iastore, 1) := by decide +kernel
theorem dX6_hear_64 : decode cX6_hear 64 = .ok (.aload_n 0, 1) := by decide +kernel
theorem dX6_hear_65 : decode cX6_hear 65 = .ok (.getfield 44, 3) := by decide +kernel
theorem dX6_hear_68 : decode cX6_hear 68 = .ok (.bipush 6, 2) := by decide +kernel
theorem dX6_hear_70 : decode cX6_hear 70 = .ok (.iload_n 1, 1) := by decide +kernel
theorem dX6_hear_71 : decode cX6_hear 71 = .ok (.imul, 1) := by decide +kernel
theorem dX6_hear_72 : decode cX6_hear 72 = .ok (.iload_n 2, 1) := by decide +kernel
theorem dX6_hear_73 : decode cX6_hear 73 = .ok (.iadd, 1) := by decide +kernel
theorem dX6_hear_74 : decode cX6_hear 74 = .ok (.aload_n 0, 1) := by decide +kernel
theorem dX6_hear_75 : decode cX6_hear 75 = .ok (.getfield 7, 3) := by decide +kernel
theorem dX6_hear_78 : decode cX6_hear 78 = .ok (.bipush 60, 2) := by decide +kernel
theorem dX6_hear_80 : decode cX6_hear 80 = .ok (.iload_n 2, 1) := by decide +kernel
theorem dX6_hear_81 : decode cX6_hear 81 = .ok (.iadd, 1) := by decide +kernel
theorem dX6_hear_82 : decode cX6_hear 82 = .ok (.iaload, 1) := by decide +kernel
theorem dX6_hear_83 : decode cX6_hear 83 = .ok (.aload_n 0, 1) := by decide +kernel
theorem dX6_hear_84 : decode cX6_hear 84 = .ok (.getfield 7, 3) := by decide +kernel
theorem dX6_hear_87 : decode cX6_hear 87 = .ok (.bipush 24, 2) := by decide +kernel
theorem dX6_hear_89 : decode cX6_hear 89 = .ok (.iload_n 2, 1) := by decide +kernel
theorem dX6_hear_90 : decode cX6_hear 90 = .ok (.iadd, 1) := by decide +kernel
theorem dX6_hear_91 : decode cX6_hear 91 = .ok (.iaload, 1) := by decide +kernel
theorem dX6_hear_92 : decode cX6_hear 92 = .ok (.iadd, 1) := by decide +kernel
theorem dX6_hear_93 : decode cX6_hear 93 = .ok (.aload_n 0, 1) := by decide +kernel
theorem dX6_hear_94 : decode cX6_hear 94 = .ok (.getfield 7, 3) := by decide +kernel
theorem dX6_hear_97 : decode cX6_hear 97 = .ok (.bipush 60, 2) := by decide +kernel
theorem dX6_hear_99 : decode cX6_hear 99 = .ok (.iload_n 1, 1) := by decide +kernel
theorem dX6_hear_100 : decode cX6_hear 100 = .ok (.iadd, 1) := by decide +kernel
theorem dX6_hear_101 : decode cX6_hear 101 = .ok (.iaload, 1) := by decide +kernel
theorem dX6_hear_102 : decode cX6_hear 102 = .ok (.isub, 1) := by decide +kernel
theorem dX6_hear_103 : decode cX6_hear 103 = .ok (.iastore, 1) := by decide +kernel
theorem dX6_hear_104 : decode cX6_hear 104 = .ok (.aload_n 0, 1) := by decide +kernel
theorem dX6_hear_105 : decode cX6_hear 105 = .ok (.getfield 7, 3) := by decide +kernel
theorem dX6_hear_108 : decode cX6_hear 108 = .ok (.iconst 0, 1) := by decide +kernel
theorem dX6_hear_109 : decode cX6_hear 109 = .ok (.iload_n 2, 1) := by decide +kernel
theorem dX6_hear_110 : decode cX6_hear 110 = .ok (.iadd, 1) := by decide +kernel
theorem dX6_hear_111 : decode cX6_hear 111 = .ok (.iaload, 1) := by decide +kernel
theorem dX6_hear_112 : decode cX6_hear 112 = .ok (.iconst 1, 1) := by decide +kernel
theorem dX6_hear_113 : decode cX6_hear 113 = .ok (.if_icmp .ne 64, 3) := by decide +kernel
theorem dX6_hear_116 : decode cX6_hear 116 = .ok (.aload_n 0, 1) := by decide +kernel
theorem dX6_hear_117 : decode cX6_hear 117 = .ok (.getfield 38, 3) := by decide +kernel
theorem dX6_hear_120 : decode cX6_hear 120 = .ok (.iload_n 1, 1) := by decide +kernel
theorem dX6_hear_121 : decode cX6_hear 121 = .ok (.dup2, 1) := by decide +kernel
theorem dX6_hear_122 : decode cX6_hear 122 = .ok (.iaload, 1) := by decide +kernel
theorem dX6_hear_123 : decode cX6_hear 123 = .ok (.iconst 1, 1) := by decide +kernel
theorem dX6_hear_124 : decode cX6_hear 124 = .ok (.iadd, 1) := by decide +kernel
theorem dX6_hear_125 : decode cX6_hear 125 = .ok (.iastore, 1) := by decide +kernel
theorem dX6_hear_126 : decode cX6_hear 126 = .ok (.aload_n 0, 1) := by decide +kernel
theorem dX6_hear_127 : decode cX6_hear 127 = .ok (.getfield 41, 3) := by decide +kernel
theorem dX6_hear_130 : decode cX6_hear 130 = .ok (.iload_n 1, 1) := by decide +kernel
theorem dX6_hear_131 : decode cX6_hear 131 = .ok (.aload_n 0, 1) := by decide +kernel
theorem dX6_hear_132 : decode cX6_hear 132 = .ok (.getfield 41, 3) := by decide +kernel
theorem dX6_hear_135 : decode cX6_hear 135 = .ok (.iload_n 1, 1) := by decide +kernel
theorem dX6_hear_136 : decode cX6_hear 136 = .ok (.iaload, 1) := by decide +kernel
theorem dX6_hear_137 : decode cX6_hear 137 = .ok (.ifCond .lt 29, 3) := by decide +kernel
theorem dX6_hear_140 : decode cX6_hear 140 = .ok (.aload_n 0, 1) := by decide +kernel
theorem dX6_hear_141 : decode cX6_hear 141 = .ok (.getfield 7, 3) := by decide +kernel
theorem dX6_hear_144 : decode cX6_hear 144 = .ok (.bipush 6, 2) := by decide +kernel
theorem dX6_hear_146 : decode cX6_hear 146 = .ok (.iload_n 2, 1) := by decide +kernel
theorem dX6_hear_147 : decode cX6_hear 147 = .ok (.iadd, 1) := by decide +kernel
theorem dX6_hear_148 : decode cX6_hear 148 = .ok (.iaload, 1) := by decide +kernel
theorem dX6_hear_149 : decode cX6_hear 149 = .ok (.aload_n 0, 1) := by decide +kernel
theorem dX6_hear_150 : decode cX6_hear 150 = .ok (.getfield 7, 3) := by decide +kernel
theorem dX6_hear_153 : decode cX6_hear 153 = .ok (.bipush 6, 2) := by decide +kernel
theorem dX6_hear_155 : decode cX6_hear 155 = .ok (.aload_n 0, 1) := by decide +kernel
theorem dX6_hear_156 : decode cX6_hear 156 = .ok (.getfield 41, 3) := by decide +kernel
theorem dX6_hear_159 : decode cX6_hear 159 = .ok (.iload_n 1, 1) := by decide +kernel
theorem dX6_hear_160 : decode cX6_hear 160 = .ok (.iaload, 1) := by decide +kernel
theorem dX6_hear_161 : decode cX6_hear 161 = .ok (.iadd, 1) := by decide +kernel
theorem dX6_hear_162 : decode cX6_hear 162 = .ok (.iaload, 1) := by decide +kernel
theorem dX6_hear_163 : decode cX6_hear 163 = .ok (.if_icmp .ge 7, 3) := by decide +kernel
theorem dX6_hear_166 : decode cX6_hear 166 = .ok (.iload_n 2, 1) := by decide +kernel
theorem dX6_hear_167 : decode cX6_hear 167 = .ok (.goto 9, 3) := by decide +kernel
theorem dX6_hear_170 : decode cX6_hear 170 = .ok (.aload_n 0, 1) := by decide +kernel
theorem dX6_hear_171 : decode cX6_hear 171 = .ok (.getfield 41, 3) := by decide +kernel
theorem dX6_hear_174 : decode cX6_hear 174 = .ok (.iload_n 1, 1) := by decide +kernel
theorem dX6_hear_175 : decode cX6_hear 175 = .ok (.iaload, 1) := by decide +kernel
theorem dX6_hear_176 : decode cX6_hear 176 = .ok (.iastore, 1) := by decide +kernel
theorem dX6_hear_177 : decode cX6_hear 177 = .ok (.iinc 2 1, 3) := by decide +kernel
theorem dX6_hear_180 : decode cX6_hear 180 = .ok (.goto (-156), 3) := by decide +kernel
theorem dX6_hear_183 : decode cX6_hear 183 = .ok (.return_, 1) := by decide +kernel
theorem dX6_keepEvent_0 : decode cX6_keepEvent 0 = .ok (.aload_n 0, 1) := by decide +kernel
theorem dX6_keepEvent_1 : decode cX6_keepEvent 1 = .ok (.getfield 7, 3) := by decide +kernel
theorem dX6_keepEvent_4 : decode cX6_keepEvent 4 = .ok (.sipush 135, 3) := by decide +kernel
theorem dX6_keepEvent_7 : decode cX6_keepEvent 7 = .ok (.iaload, 1) := by decide +kernel
theorem dX6_keepEvent_8 : decode cX6_keepEvent 8 = .ok (.bipush 40, 2) := by decide +kernel
theorem dX6_keepEvent_10 : decode cX6_keepEvent 10 = .ok (.if_icmp .ne 49, 3) := by decide +kernel
theorem dX6_keepEvent_13 : decode cX6_keepEvent 13 = .ok (.iconst 0, 1) := by decide +kernel
theorem dX6_keepEvent_14 : decode cX6_keepEvent 14 = .ok (.istore_n 2, 1) := by decide +kernel
theorem dX6_keepEvent_15 : decode cX6_keepEvent 15 = .ok (.iload_n 2, 1) := by decide +kernel
theorem dX6_keepEvent_16 : decode cX6_keepEvent 16 = .ok (.bipush 117, 2) := by decide +kernel
theorem dX6_keepEvent_18 : decode cX6_keepEvent 18 = .ok (.if_icmp .ge 29, 3) := by decide +kernel
theorem dX6_keepEvent_21 : decode cX6_keepEvent 21 = .ok (.aload_n 0, 1) := by decide +kernel
theorem dX6_keepEvent_22 : decode cX6_keepEvent 22 = .ok (.getfield 7, 3) := by decide +kernel
theorem dX6_keepEvent_25 : decode cX6_keepEvent 25 = .ok (.sipush 136, 3) := by decide +kernel
theorem dX6_keepEvent_28 : decode cX6_keepEvent 28 = .ok (.iload_n 2, 1) := by decide +kernel
theorem dX6_keepEvent_29 : decode cX6_keepEvent 29 = .ok (.iadd, 1) := by decide +kernel
theorem dX6_keepEvent_30 : decode cX6_keepEvent 30 = .ok (.aload_n 0, 1) := by decide +kernel
theorem dX6_keepEvent_31 : decode cX6_keepEvent 31 = .ok (.getfield 7, 3) := by decide +kernel
theorem dX6_keepEvent_34 : decode cX6_keepEvent 34 = .ok (.sipush 139, 3) := by decide +kernel
theorem dX6_keepEvent_37 : decode cX6_keepEvent 37 = .ok (.iload_n 2, 1) := by decide +kernel
theorem dX6_keepEvent_38 : decode cX6_keepEvent 38 = .ok (.iadd, 1) := by decide +kernel
theorem dX6_keepEvent_39 : decode cX6_keepEvent 39 = .ok (.iaload, 1) := by decide +kernel
theorem dX6_keepEvent_40 : decode cX6_keepEvent 40 = .ok (.iastore, 1) := by decide +kernel
theorem dX6_keepEvent_41 : decode cX6_keepEvent 41 = .ok (.iinc 2 1, 3) := by decide +kernel
theorem dX6_keepEvent_44 : decode cX6_keepEvent 44 = .ok (.goto (-29), 3) := by decide +kernel
theorem dX6_keepEvent_47 : decode cX6_keepEvent 47 = .ok (.aload_n 0, 1) := by decide +kernel
theorem dX6_keepEvent_48 : decode cX6_keepEvent 48 = .ok (.getfield 7, 3) := by decide +kernel
theorem dX6_keepEvent_51 : decode cX6_keepEvent 51 = .ok (.sipush 135, 3) := by decide +kernel
theorem dX6_keepEvent_54 : decode cX6_keepEvent 54 = .ok (.dup2, 1) := by decide +kernel
theorem dX6_keepEvent_55 : decode cX6_keepEvent 55 = .ok (.iaload, 1) := by decide +kernel
theorem dX6_keepEvent_56 : decode cX6_keepEvent 56 = .ok (.iconst 1, 1) := by decide +kernel
theorem dX6_keepEvent_57 : decode cX6_keepEvent 57 = .ok (.isub, 1) := by decide +kernel
theorem dX6_keepEvent_58 : decode cX6_keepEvent 58 = .ok (.iastore, 1) := by decide +kernel
theorem dX6_keepEvent_59 : decode cX6_keepEvent 59 = .ok (.sipush 136, 3) := by decide +kernel
theorem dX6_keepEvent_62 : decode cX6_keepEvent 62 = .ok (.iconst 3, 1) := by decide +kernel
theorem dX6_keepEvent_63 : decode cX6_keepEvent 63 = .ok (.aload_n 0, 1) := by decide +kernel
theorem dX6_keepEvent_64 : decode cX6_keepEvent 64 = .ok (.getfield 7, 3) := by decide +kernel
theorem dX6_keepEvent_67 : decode cX6_keepEvent 67 = .ok (.sipush 135, 3) := by decide +kernel
theorem dX6_keepEvent_70 : decode cX6_keepEvent 70 = .ok (.iaload, 1) := by decide +kernel
theorem dX6_keepEvent_71 : decode cX6_keepEvent 71 = .ok (.imul, 1) := by decide +kernel
theorem dX6_keepEvent_72 : decode cX6_keepEvent 72 = .ok (.iadd, 1) := by decide +kernel
theorem dX6_keepEvent_73 : decode cX6_keepEvent 73 = .ok (.istore_n 2, 1) := by decide +kernel
theorem dX6_keepEvent_74 : decode cX6_keepEvent 74 = .ok (.aload_n 0, 1) := by decide +kernel
theorem dX6_keepEvent_75 : decode cX6_keepEvent 75 = .ok (.getfield 7, 3) := by decide +kernel
theorem dX6_keepEvent_78 : decode cX6_keepEvent 78 = .ok (.iload_n 2, 1) := by decide +kernel
theorem dX6_keepEvent_79 : decode cX6_keepEvent 79 = .ok (.aload_n 0, 1) := by decide +kernel
theorem dX6_keepEvent_80 : decode cX6_keepEvent 80 = .ok (.getfield 7, 3) := by decide +kernel
theorem dX6_keepEvent_83 : decode cX6_keepEvent 83 = .ok (.sipush 133, 3) := by decide +kernel
theorem dX6_keepEvent_86 : decode cX6_keepEvent 86 = .ok (.iaload, 1) := by decide +kernel
theorem dX6_keepEvent_87 : decode cX6_keepEvent 87 = .ok (.iastore, 1) := by decide +kernel
theorem dX6_keepEvent_88 : decode cX6_keepEvent 88 = .ok (.aload_n 0, 1) := by decide +kernel
theorem dX6_keepEvent_89 : decode cX6_keepEvent 89 = .ok (.getfield 7, 3) := by decide +kernel
theorem dX6_keepEvent_92 : decode cX6_keepEvent 92 = .ok (.iload_n 2, 1) := by decide +kernel
theorem dX6_keepEvent_93 : decode cX6_keepEvent 93 = .ok (.iconst 1, 1) := by decide +kernel
theorem dX6_keepEvent_94 : decode cX6_keepEvent 94 = .ok (.iadd, 1) := by decide +kernel
theorem dX6_keepEvent_95 : decode cX6_keepEvent 95 = .ok (.iload_n 1, 1) := by decide +kernel
theorem dX6_keepEvent_96 : decode cX6_keepEvent 96 = .ok (.iastore, 1) := by decide +kernel
theorem dX6_keepEvent_97 : decode cX6_keepEvent 97 = .ok (.aload_n 0, 1) := by decide +kernel
theorem dX6_keepEvent_98 : decode cX6_keepEvent 98 = .ok (.getfield 7, 3) := by decide +kernel
theorem dX6_keepEvent_101 : decode cX6_keepEvent 101 = .ok (.iload_n 2, 1) := by decide +kernel
theorem dX6_keepEvent_102 : decode cX6_keepEvent 102 = .ok (.iconst 2, 1) := by decide +kernel
theorem dX6_keepEvent_103 : decode cX6_keepEvent 103 = .ok (.iadd, 1) := by decide +kernel
theorem dX6_keepEvent_104 : decode cX6_keepEvent 104 = .ok (.aload_n 0, 1) := by decide +kernel
theorem dX6_keepEvent_105 : decode cX6_keepEvent 105 = .ok (.getfield 7, 3) := by decide +kernel
theorem dX6_keepEvent_108 : decode cX6_keepEvent 108 = .ok (.bipush 30, 2) := by decide +kernel
theorem dX6_keepEvent_110 : decode cX6_keepEvent 110 = .ok (.iload_n 1, 1) := by decide +kernel
theorem dX6_keepEvent_111 : decode cX6_keepEvent 111 = .ok (.iadd, 1) := by decide +kernel
theorem dX6_keepEvent_112 : decode cX6_keepEvent 112 = .ok (.iaload, 1) := by decide +kernel
theorem dX6_keepEvent_113 : decode cX6_keepEvent 113 = .ok (.iastore, 1) := by decide +kernel
theorem dX6_keepEvent_114 : decode cX6_keepEvent 114 = .ok (.aload_n 0, 1) := by decide +kernel
theorem dX6_keepEvent_115 : decode cX6_keepEvent 115 = .ok (.getfield 7, 3) := by decide +kernel
theorem dX6_keepEvent_118 : decode cX6_keepEvent 118 = .ok (.sipush 135, 3) := by decide +kernel
theorem dX6_keepEvent_121 : decode cX6_keepEvent 121 = .ok (.dup2, 1) := by decide +kernel
theorem dX6_keepEvent_122 : decode cX6_keepEvent 122 = .ok (.iaload, 1) := by decide +kernel
theorem dX6_keepEvent_123 : decode cX6_keepEvent 123 = .ok (.iconst 1, 1) := by decide +kernel
theorem dX6_keepEvent_124 : decode cX6_keepEvent 124 = .ok (.iadd, 1) := by decide +kernel
theorem dX6_keepEvent_125 : decode cX6_keepEvent 125 = .ok (.iastore, 1) := by decide +kernel
theorem dX6_keepEvent_126 : decode cX6_keepEvent 126 = .ok (.return_, 1) := by decide +kernel
theorem dX6_become_0 : decode cX6_become 0 = .ok (.aload_n 0, 1) := by decide +kernel
theorem dX6_become_1 : decode cX6_become 1 = .ok (.iload_n 1, 1) := by decide +kernel
theorem dX6_become_2 : decode cX6_become 2 = .ok (.iload_n 2, 1) := by decide +kernel
theorem dX6_become_3 : decode cX6_become 3 = .ok (.invokevirtual 68, 3) := by decide +kernel
theorem dX6_become_6 : decode cX6_become 6 = .ok (.aload_n 0, 1) := by decide +kernel
theorem dX6_become_7 : decode cX6_become 7 = .ok (.getfield 32, 3) := by decide +kernel
theorem dX6_become_10 : decode cX6_become 10 = .ok (.iload_n 1, 1) := by decide +kernel
theorem dX6_become_11 : decode cX6_become 11 = .ok (.iconst 1, 1) := by decide +kernel
theorem dX6_become_12 : decode cX6_become 12 = .ok (.bastore, 1) := by decide +kernel
theorem dX6_become_13 : decode cX6_become 13 = .ok (.aload_n 0, 1) := by decide +kernel
theorem dX6_become_14 : decode cX6_become 14 = .ok (.iload_n 1, 1) := by decide +kernel
theorem dX6_become_15 : decode cX6_become 15 = .ok (.invokevirtual 82, 3) := by decide +kernel
theorem dX6_become_18 : decode cX6_become 18 = .ok (.return_, 1) := by decide +kernel
theorem dX6_otherSign_0 : decode cX6_otherSign 0 = .ok (.iconst 0, 1) := by decide +kernel
theorem dX6_otherSign_1 : decode cX6_otherSign 1 = .ok (.istore_n 2, 1) := by decide +kernel
theorem dX6_otherSign_2 : decode cX6_otherSign 2 = .ok (.iconst 0, 1) := by decide +kernel
theorem dX6_otherSign_3 : decode cX6_otherSign 3 = .ok (.istore_n 3, 1) := by decide +kernel
theorem dX6_otherSign_4 : decode cX6_otherSign 4 = .ok (.iload_n 3, 1) := by decide +kernel
theorem dX6_otherSign_5 : decode cX6_otherSign 5 = .ok (.bipush 6, 2) := by decide +kernel
theorem dX6_otherSign_7 : decode cX6_otherSign 7 = .ok (.if_icmp .ge 33, 3) := by decide +kernel
theorem dX6_otherSign_10 : decode cX6_otherSign 10 = .ok (.iload_n 2, 1) := by decide +kernel
theorem dX6_otherSign_11 : decode cX6_otherSign 11 = .ok (.ifCond .ne 17, 3) := by decide +kernel
theorem dX6_otherSign_14 : decode cX6_otherSign 14 = .ok (.iload_n 3, 1) := by decide +kernel
theorem dX6_otherSign_15 : decode cX6_otherSign 15 = .ok (.iload_n 1, 1) := by decide +kernel
theorem dX6_otherSign_16 : decode cX6_otherSign 16 = .ok (.if_icmp .eq 16, 3) := by decide +kernel
theorem dX6_otherSign_19 : decode cX6_otherSign 19 = .ok (.aload_n 0, 1) := by decide +kernel
theorem dX6_otherSign_20 : decode cX6_otherSign 20 = .ok (.getfield 26, 3) := by decide +kernel
theorem dX6_otherSign_23 : decode cX6_otherSign 23 = .ok (.iload_n 3, 1) := by decide +kernel
theorem dX6_otherSign_24 : decode cX6_otherSign 24 = .ok (.baload, 1) := by decide +kernel
theorem dX6_otherSign_25 : decode cX6_otherSign 25 = .ok (.ifCond .eq 7, 3) := by decide +kernel
theorem dX6_otherSign_28 : decode cX6_otherSign 28 = .ok (.iconst 1, 1) := by decide +kernel
theorem dX6_otherSign_29 : decode cX6_otherSign 29 = .ok (.goto 4, 3) := by decide +kernel
theorem dX6_otherSign_32 : decode cX6_otherSign 32 = .ok (.iconst 0, 1) := by decide +kernel
theorem dX6_otherSign_33 : decode cX6_otherSign 33 = .ok (.istore_n 2, 1) := by decide +kernel
theorem dX6_otherSign_34 : decode cX6_otherSign 34 = .ok (.iinc 3 1, 3) := by decide +kernel
theorem dX6_otherSign_37 : decode cX6_otherSign 37 = .ok (.goto (-33), 3) := by decide +kernel
theorem dX6_otherSign_40 : decode cX6_otherSign 40 = .ok (.iload_n 2, 1) := by decide +kernel
theorem dX6_otherSign_41 : decode cX6_otherSign 41 = .ok (.ireturn, 1) := by decide +kernel
theorem dX6_follow_0 : decode cX6_follow 0 = .ok (.aload_n 0, 1) := by decide +kernel
theorem dX6_follow_1 : decode cX6_follow 1 = .ok (.iload_n 1, 1) := by decide +kernel
theorem dX6_follow_2 : decode cX6_follow 2 = .ok (.iload_n 2, 1) := by decide +kernel
theorem dX6_follow_3 : decode cX6_follow 3 = .ok (.invokevirtual 86, 3) := by decide +kernel
theorem dX6_follow_6 : decode cX6_follow 6 = .ok (.aload_n 0, 1) := by decide +kernel
theorem dX6_follow_7 : decode cX6_follow 7 = .ok (.getfield 41, 3) := by decide +kernel
theorem dX6_follow_10 : decode cX6_follow 10 = .ok (.iload_n 1, 1) := by decide +kernel
theorem dX6_follow_11 : decode cX6_follow 11 = .ok (.iaload, 1) := by decide +kernel
theorem dX6_follow_12 : decode cX6_follow 12 = .ok (.istore_n 3, 1) := by decide +kernel
theorem dX6_follow_13 : decode cX6_follow 13 = .ok (.aload_n 0, 1) := by decide +kernel
theorem dX6_follow_14 : decode cX6_follow 14 = .ok (.getfield 7, 3) := by decide +kernel
theorem dX6_follow_17 : decode cX6_follow 17 = .ok (.bipush 60, 2) := by decide +kernel
theorem dX6_follow_19 : decode cX6_follow 19 = .ok (.iload_n 1, 1) := by decide +kernel
theorem dX6_follow_20 : decode cX6_follow 20 = .ok (.iadd, 1) := by decide +kernel
theorem dX6_follow_21 : decode cX6_follow 21 = .ok (.dup2, 1) := by decide +kernel
theorem dX6_follow_22 : decode cX6_follow 22 = .ok (.iaload, 1) := by decide +kernel
theorem dX6_follow_23 : decode cX6_follow 23 = .ok (.aload_n 0, 1) := by decide +kernel
theorem dX6_follow_24 : decode cX6_follow 24 = .ok (.getfield 44, 3) := by decide +kernel
theorem dX6_follow_27 : decode cX6_follow 27 = .ok (.bipush 6, 2) := by decide +kernel
theorem dX6_follow_29 : decode cX6_follow 29 = .ok (.iload_n 1, 1) := by decide +kernel
theorem dX6_follow_30 : decode cX6_follow 30 = .ok (.imul, 1) := by decide +kernel
theorem dX6_follow_31 : decode cX6_follow 31 = .ok (.iload_n 3, 1) := by decide +kernel
theorem dX6_follow_32 : decode cX6_follow 32 = .ok (.iadd, 1) := by decide +kernel
theorem dX6_follow_33 : decode cX6_follow 33 = .ok (.iaload, 1) := by decide +kernel
theorem dX6_follow_34 : decode cX6_follow 34 = .ok (.iadd, 1) := by decide +kernel
theorem dX6_follow_35 : decode cX6_follow 35 = .ok (.iastore, 1) := by decide +kernel
theorem dX6_follow_36 : decode cX6_follow 36 = .ok (.aload_n 0, 1) := by decide +kernel
theorem dX6_follow_37 : decode cX6_follow 37 = .ok (.getfield 7, 3) := by decide +kernel
theorem dX6_follow_40 : decode cX6_follow 40 = .ok (.bipush 66, 2) := by decide +kernel
theorem dX6_follow_42 : decode cX6_follow 42 = .ok (.iload_n 1, 1) := by decide +kernel
theorem dX6_follow_43 : decode cX6_follow 43 = .ok (.iadd, 1) := by decide +kernel
theorem dX6_follow_44 : decode cX6_follow 44 = .ok (.aload_n 0, 1) := by decide +kernel
theorem dX6_follow_45 : decode cX6_follow 45 = .ok (.getfield 7, 3) := by decide +kernel
theorem dX6_follow_48 : decode cX6_follow 48 = .ok (.bipush 18, 2) := by decide +kernel
theorem dX6_follow_50 : decode cX6_follow 50 = .ok (.iload_n 3, 1) := by decide +kernel
theorem dX6_follow_51 : decode cX6_follow 51 = .ok (.iadd, 1) := by decide +kernel
theorem dX6_follow_52 : decode cX6_follow 52 = .ok (.iaload, 1) := by decide +kernel
theorem dX6_follow_53 : decode cX6_follow 53 = .ok (.aload_n 0, 1) := by decide +kernel
theorem dX6_follow_54 : decode cX6_follow 54 = .ok (.getfield 47, 3) := by decide +kernel
theorem dX6_follow_57 : decode cX6_follow 57 = .ok (.iload_n 3, 1) := by decide +kernel
theorem dX6_follow_58 : decode cX6_follow 58 = .ok (.iaload, 1) := by decide +kernel
theorem dX6_follow_59 : decode cX6_follow 59 = .ok (.iadd, 1) := by decide +kernel
theorem dX6_follow_60 : decode cX6_follow 60 = .ok (.aload_n 0, 1) := by decide +kernel
theorem dX6_follow_61 : decode cX6_follow 61 = .ok (.getfield 7, 3) := by decide +kernel
theorem dX6_follow_64 : decode cX6_follow 64 = .ok (.bipush 18, 2) := by decide +kernel
theorem dX6_follow_66 : decode cX6_follow 66 = .ok (.iload_n 1, 1) := by decide +kernel
theorem dX6_follow_67 : decode cX6_follow 67 = .ok (.iadd, 1) := by decide +kernel
theorem dX6_follow_68 : decode cX6_follow 68 = .ok (.iaload, 1) := by decide +kernel
theorem dX6_follow_69 : decode cX6_follow 69 = .ok (.isub, 1) := by decide +kernel
theorem dX6_follow_70 : decode cX6_follow 70 = .ok (.iastore, 1) := by decide +kernel
theorem dX6_follow_71 : decode cX6_follow 71 = .ok (.return_, 1) := by decide +kernel
theorem dX6_listen_0 : decode cX6_listen 0 = .ok (.aload_n 0, 1) := by decide +kernel
theorem dX6_listen_1 : decode cX6_listen 1 = .ok (.getfield 7, 3) := by decide +kernel
theorem dX6_listen_4 : decode cX6_listen 4 = .ok (.bipush 42, 2) := by decide +kernel
theorem dX6_listen_6 : decode cX6_listen 6 = .ok (.iload_n 1, 1) := by decide +kernel
theorem dX6_listen_7 : decode cX6_listen 7 = .ok (.iadd, 1) := by decide +kernel
theorem dX6_listen_8 : decode cX6_listen 8 = .ok (.aload_n 0, 1) := by decide +kernel
theorem dX6_listen_9 : decode cX6_listen 9 = .ok (.getfield 35, 3) := by decide +kernel
theorem dX6_listen_12 : decode cX6_listen 12 = .ok (.iload_n 1, 1) := by decide +kernel
theorem dX6_listen_13 : decode cX6_listen 13 = .ok (.iaload, 1) := by decide +kernel
theorem dX6_listen_14 : decode cX6_listen 14 = .ok (.ifCond .ne 25, 3) := by decide +kernel
theorem dX6_listen_17 : decode cX6_listen 17 = .ok (.aload_n 0, 1) := by decide +kernel
theorem dX6_listen_18 : decode cX6_listen 18 = .ok (.iload_n 1, 1) := by decide +kernel
theorem dX6_listen_19 : decode cX6_listen 19 = .ok (.invokevirtual 89, 3) := by decide +kernel
theorem dX6_listen_22 : decode cX6_listen 22 = .ok (.ifCond .ne 17, 3) := by decide +kernel
theorem dX6_listen_25 : decode cX6_listen 25 = .ok (.aload_n 0, 1) := by decide +kernel
theorem dX6_listen_26 : decode cX6_listen 26 = .ok (.getfield 7, 3) := by decide +kernel
theorem dX6_listen_29 : decode cX6_listen 29 = .ok (.bipush 42, 2) := by decide +kernel
theorem dX6_listen_31 : decode cX6_listen 31 = .ok (.iload_n 1, 1) := by decide +kernel
theorem dX6_listen_32 : decode cX6_listen 32 = .ok (.iadd, 1) := by decide +kernel
theorem dX6_listen_33 : decode cX6_listen 33 = .ok (.iaload, 1) := by decide +kernel
theorem dX6_listen_34 : decode cX6_listen 34 = .ok (.iconst 1, 1) := by decide +kernel
theorem dX6_listen_35 : decode cX6_listen 35 = .ok (.iadd, 1) := by decide +kernel
theorem dX6_listen_36 : decode cX6_listen 36 = .ok (.goto 4, 3) := by decide +kernel
theorem dX6_listen_39 : decode cX6_listen 39 = .ok (.iconst 0, 1) := by decide +kernel
theorem dX6_listen_40 : decode cX6_listen 40 = .ok (.iastore, 1) := by decide +kernel
theorem dX6_listen_41 : decode cX6_listen 41 = .ok (.aload_n 0, 1) := by decide +kernel
theorem dX6_listen_42 : decode cX6_listen 42 = .ok (.getfield 7, 3) := by decide +kernel
theorem dX6_listen_45 : decode cX6_listen 45 = .ok (.iconst 0, 1) := by decide +kernel
theorem dX6_listen_46 : decode cX6_listen 46 = .ok (.iload_n 1, 1) := by decide +kernel
theorem dX6_listen_47 : decode cX6_listen 47 = .ok (.iadd, 1) := by decide +kernel
theorem dX6_listen_48 : decode cX6_listen 48 = .ok (.iaload, 1) := by decide +kernel
theorem dX6_listen_49 : decode cX6_listen 49 = .ok (.iconst 1, 1) := by decide +kernel
theorem dX6_listen_50 : decode cX6_listen 50 = .ok (.if_icmp .ne 7, 3) := by decide +kernel
theorem dX6_listen_53 : decode cX6_listen 53 = .ok (.iconst 1, 1) := by decide +kernel
theorem dX6_listen_54 : decode cX6_listen 54 = .ok (.goto 4, 3) := by decide +kernel
theorem dX6_listen_57 : decode cX6_listen 57 = .ok (.iconst 0, 1) := by decide +kernel
theorem dX6_listen_58 : decode cX6_listen 58 = .ok (.istore_n 2, 1) := by decide +kernel
theorem dX6_listen_59 : decode cX6_listen 59 = .ok (.iload_n 2, 1) := by decide +kernel
theorem dX6_listen_60 : decode cX6_listen 60 = .ok (.ifCond .eq 39, 3) := by decide +kernel
theorem dX6_listen_63 : decode cX6_listen 63 = .ok (.aload_n 0, 1) := by decide +kernel
theorem dX6_listen_64 : decode cX6_listen 64 = .ok (.getfield 41, 3) := by decide +kernel
theorem dX6_listen_67 : decode cX6_listen 67 = .ok (.iload_n 1, 1) := by decide +kernel
theorem dX6_listen_68 : decode cX6_listen 68 = .ok (.iaload, 1) := by decide +kernel
theorem dX6_listen_69 : decode cX6_listen 69 = .ok (.ifCond .lt 30, 3) := by decide +kernel
theorem dX6_listen_72 : decode cX6_listen 72 = .ok (.aload_n 0, 1) := by decide +kernel
theorem dX6_listen_73 : decode cX6_listen 73 = .ok (.getfield 41, 3) := by decide +kernel
theorem dX6_listen_76 : decode cX6_listen 76 = .ok (.iload_n 1, 1) := by decide +kernel
theorem dX6_listen_77 : decode cX6_listen 77 = .ok (.iaload, 1) := by decide +kernel
theorem dX6_listen_78 : decode cX6_listen 78 = .ok (.aload_n 0, 1) := by decide +kernel
theorem dX6_listen_79 : decode cX6_listen 79 = .ok (.getfield 7, 3) := by decide +kernel
theorem dX6_listen_82 : decode cX6_listen 82 = .ok (.bipush 78, 2) := by decide +kernel
theorem dX6_listen_84 : decode cX6_listen 84 = .ok (.iload_n 1, 1) := by decide +kernel
theorem dX6_listen_85 : decode cX6_listen 85 = .ok (.iadd, 1) := by decide +kernel
theorem dX6_listen_86 : decode cX6_listen 86 = .ok (.iaload, 1) := by decide +kernel
theorem dX6_listen_87 : decode cX6_listen 87 = .ok (.if_icmp .ne 12, 3) := by decide +kernel
theorem dX6_listen_90 : decode cX6_listen 90 = .ok (.aload_n 0, 1) := by decide +kernel
theorem dX6_listen_91 : decode cX6_listen 91 = .ok (.iload_n 1, 1) := by decide +kernel
theorem dX6_listen_92 : decode cX6_listen 92 = .ok (.iconst 3, 1) := by decide +kernel
theorem dX6_listen_93 : decode cX6_listen 93 = .ok (.invokevirtual 92, 3) := by decide +kernel
theorem dX6_listen_96 : decode cX6_listen 96 = .ok (.goto 70, 3) := by decide +kernel
theorem dX6_listen_99 : decode cX6_listen 99 = .ok (.iload_n 2, 1) := by decide +kernel
theorem dX6_listen_100 : decode cX6_listen 100 = .ok (.ifCond .ne 35, 3) := by decide +kernel
theorem dX6_listen_103 : decode cX6_listen 103 = .ok (.aload_n 0, 1) := by decide +kernel
theorem dX6_listen_104 : decode cX6_listen 104 = .ok (.getfield 38, 3) := by decide +kernel
theorem dX6_listen_107 : decode cX6_listen 107 = .ok (.iload_n 1, 1) := by decide +kernel
theorem dX6_listen_108 : decode cX6_listen 108 = .ok (.iaload, 1) := by decide +kernel
theorem dX6_listen_109 : decode cX6_listen 109 = .ok (.iconst 2, 1) := by decide +kernel
theorem dX6_listen_110 : decode cX6_listen 110 = .ok (.if_icmp .lt 25, 3) := by decide +kernel
theorem dX6_listen_113 : decode cX6_listen 113 = .ok (.aload_n 0, 1) := by decide +kernel
theorem dX6_listen_114 : decode cX6_listen 114 = .ok (.getfield 7, 3) := by decide +kernel
theorem dX6_listen_117 : decode cX6_listen 117 = .ok (.bipush 90, 2) := by decide +kernel
theorem dX6_listen_119 : decode cX6_listen 119 = .ok (.iload_n 1, 1) := by decide +kernel
theorem dX6_listen_120 : decode cX6_listen 120 = .ok (.iadd, 1) := by decide +kernel
theorem dX6_listen_121 : decode cX6_listen 121 = .ok (.iaload, 1) := by decide +kernel
theorem dX6_listen_122 : decode cX6_listen 122 = .ok (.iconst 2, 1) := by decide +kernel
theorem dX6_listen_123 : decode cX6_listen 123 = .ok (.if_icmp .lt 12, 3) := by decide +kernel
theorem dX6_listen_126 : decode cX6_listen 126 = .ok (.aload_n 0, 1) := by decide +kernel
theorem dX6_listen_127 : decode cX6_listen 127 = .ok (.iload_n 1, 1) := by decide +kernel
theorem dX6_listen_128 : decode cX6_listen 128 = .ok (.iconst 4, 1) := by decide +kernel
theorem dX6_listen_129 : decode cX6_listen 129 = .ok (.invokevirtual 92, 3) := by decide +kernel
theorem dX6_listen_132 : decode cX6_listen 132 = .ok (.goto 34, 3) := by decide +kernel
theorem dX6_listen_135 : decode cX6_listen 135 = .ok (.iload_n 2, 1) := by decide +kernel
theorem dX6_listen_136 : decode cX6_listen 136 = .ok (.ifCond .eq 30, 3) := by decide +kernel
theorem dX6_listen_139 : decode cX6_listen 139 = .ok (.aload_n 0, 1) := by decide +kernel
theorem dX6_listen_140 : decode cX6_listen 140 = .ok (.getfield 7, 3) := by decide +kernel
theorem dX6_listen_143 : decode cX6_listen 143 = .ok (.bipush 42, 2) := by decide +kernel
theorem dX6_listen_145 : decode cX6_listen 145 = .ok (.iload_n 1, 1) := by decide +kernel
theorem dX6_listen_146 : decode cX6_listen 146 = .ok (.iadd, 1) := by decide +kernel
theorem dX6_listen_147 : decode cX6_listen 147 = .ok (.iaload, 1) := by decide +kernel
theorem dX6_listen_148 : decode cX6_listen 148 = .ok (.aload_n 0, 1) := by decide +kernel
theorem dX6_listen_149 : decode cX6_listen 149 = .ok (.getfield 7, 3) := by decide +kernel
theorem dX6_listen_152 : decode cX6_listen 152 = .ok (.bipush 12, 2) := by decide +kernel
theorem dX6_listen_154 : decode cX6_listen 154 = .ok (.iload_n 1, 1) := by decide +kernel
theorem dX6_listen_155 : decode cX6_listen 155 = .ok (.iadd, 1) := by decide +kernel
theorem dX6_listen_156 : decode cX6_listen 156 = .ok (.iaload, 1) := by decide +kernel
theorem dX6_listen_157 : decode cX6_listen 157 = .ok (.if_icmp .lt 9, 3) := by decide +kernel
theorem dX6_listen_160 : decode cX6_listen 160 = .ok (.aload_n 0, 1) := by decide +kernel
theorem dX6_listen_161 : decode cX6_listen 161 = .ok (.iload_n 1, 1) := by decide +kernel
theorem dX6_listen_162 : decode cX6_listen 162 = .ok (.iconst 2, 1) := by decide +kernel
theorem dX6_listen_163 : decode cX6_listen 163 = .ok (.invokevirtual 86, 3) := by decide +kernel
theorem dX6_listen_166 : decode cX6_listen 166 = .ok (.return_, 1) := by decide +kernel
theorem dX6_lead_0 : decode cX6_lead 0 = .ok (.aload_n 0, 1) := by decide +kernel
theorem dX6_lead_1 : decode cX6_lead 1 = .ok (.getfield 7, 3) := by decide +kernel
theorem dX6_lead_4 : decode cX6_lead 4 = .ok (.bipush 36, 2) := by decide +kernel
theorem dX6_lead_6 : decode cX6_lead 6 = .ok (.iload_n 1, 1) := by decide +kernel
theorem dX6_lead_7 : decode cX6_lead 7 = .ok (.iadd, 1) := by decide +kernel
theorem dX6_lead_8 : decode cX6_lead 8 = .ok (.iaload, 1) := by decide +kernel
theorem dX6_lead_9 : decode cX6_lead 9 = .ok (.iconst 3, 1) := by decide +kernel
theorem dX6_lead_10 : decode cX6_lead 10 = .ok (.if_icmp .lt 21, 3) := by decide +kernel
theorem dX6_lead_13 : decode cX6_lead 13 = .ok (.aload_n 0, 1) := by decide +kernel
theorem dX6_lead_14 : decode cX6_lead 14 = .ok (.getfield 38, 3) := by decide +kernel
theorem dX6_lead_17 : decode cX6_lead 17 = .ok (.iload_n 1, 1) := by decide +kernel
theorem dX6_lead_18 : decode cX6_lead 18 = .ok (.iaload, 1) := by decide +kernel
theorem dX6_lead_19 : decode cX6_lead 19 = .ok (.ifCond .le 12, 3) := by decide +kernel
theorem dX6_lead_22 : decode cX6_lead 22 = .ok (.aload_n 0, 1) := by decide +kernel
theorem dX6_lead_23 : decode cX6_lead 23 = .ok (.iload_n 1, 1) := by decide +kernel
theorem dX6_lead_24 : decode cX6_lead 24 = .ok (.iconst 4, 1) := by decide +kernel
theorem dX6_lead_25 : decode cX6_lead 25 = .ok (.invokevirtual 86, 3) := by decide +kernel
theorem dX6_lead_28 : decode cX6_lead 28 = .ok (.goto 23, 3) := by decide +kernel
theorem dX6_lead_31 : decode cX6_lead 31 = .ok (.aload_n 0, 1) := by decide +kernel
theorem dX6_lead_32 : decode cX6_lead 32 = .ok (.getfield 7, 3) := by decide +kernel
theorem dX6_lead_35 : decode cX6_lead 35 = .ok (.bipush 36, 2) := by decide +kernel
theorem dX6_lead_37 : decode cX6_lead 37 = .ok (.iload_n 1, 1) := by decide +kernel
theorem dX6_lead_38 : decode cX6_lead 38 = .ok (.iadd, 1) := by decide +kernel
theorem dX6_lead_39 : decode cX6_lead 39 = .ok (.iaload, 1) := by decide +kernel
theorem dX6_lead_40 : decode cX6_lead 40 = .ok (.bipush 7, 2) := by decide +kernel
theorem dX6_lead_42 : decode cX6_lead 42 = .ok (.if_icmp .lt 9, 3) := by decide +kernel
theorem dX6_lead_45 : decode cX6_lead 45 = .ok (.aload_n 0, 1) := by decide +kernel
theorem dX6_lead_46 : decode cX6_lead 46 = .ok (.iload_n 1, 1) := by decide +kernel
theorem dX6_lead_47 : decode cX6_lead 47 = .ok (.iconst 1, 1) := by decide +kernel
theorem dX6_lead_48 : decode cX6_lead 48 = .ok (.invokevirtual 86, 3) := by decide +kernel
theorem dX6_lead_51 : decode cX6_lead 51 = .ok (.return_, 1) := by decide +kernel
theorem dX6_join_0 : decode cX6_join 0 = .ok (.aload_n 0, 1) := by decide +kernel
theorem dX6_join_1 : decode cX6_join 1 = .ok (.getfield 38, 3) := by decide +kernel
