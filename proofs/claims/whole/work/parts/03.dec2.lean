theorem dX12_lateBy_217 : decode cX12_lateBy 217 = .ok (.iload_n 3, 1) := by decide +kernel
theorem dX12_lateBy_218 : decode cX12_lateBy 218 = .ok (.ireturn, 1) := by decide +kernel
theorem dX12_growsIn_0 : decode cX12_growsIn 0 = .ok (.iconst 0, 1) := by decide +kernel
theorem dX12_growsIn_1 : decode cX12_growsIn 1 = .ok (.istore_n 2, 1) := by decide +kernel
theorem dX12_growsIn_2 : decode cX12_growsIn 2 = .ok (.iload_n 1, 1) := by decide +kernel
theorem dX12_growsIn_3 : decode cX12_growsIn 3 = .ok (.bipush (-9), 2) := by decide +kernel
theorem dX12_growsIn_5 : decode cX12_growsIn 5 = .ok (.if_icmp .ne 8, 3) := by decide +kernel
theorem dX12_growsIn_8 : decode cX12_growsIn 8 = .ok (.bipush (-9), 2) := by decide +kernel
theorem dX12_growsIn_10 : decode cX12_growsIn 10 = .ok (.goto 11, 3) := by decide +kernel
theorem dX12_growsIn_13 : decode cX12_growsIn 13 = .ok (.aload_n 0, 1) := by decide +kernel
theorem dX12_growsIn_14 : decode cX12_growsIn 14 = .ok (.getfield 44, 3) := by decide +kernel
theorem dX12_growsIn_17 : decode cX12_growsIn 17 = .ok (.iload_n 1, 1) := by decide +kernel
theorem dX12_growsIn_18 : decode cX12_growsIn 18 = .ok (.iaload, 1) := by decide +kernel
theorem dX12_growsIn_19 : decode cX12_growsIn 19 = .ok (.iconst 1, 1) := by decide +kernel
theorem dX12_growsIn_20 : decode cX12_growsIn 20 = .ok (.isub, 1) := by decide +kernel
theorem dX12_growsIn_21 : decode cX12_growsIn 21 = .ok (.istore_n 3, 1) := by decide +kernel
theorem dX12_growsIn_22 : decode cX12_growsIn 22 = .ok (.iload_n 3, 1) := by decide +kernel
theorem dX12_growsIn_23 : decode cX12_growsIn 23 = .ok (.iload_n 1, 1) := by decide +kernel
theorem dX12_growsIn_24 : decode cX12_growsIn 24 = .ok (.if_icmp .lt 75, 3) := by decide +kernel
theorem dX12_growsIn_27 : decode cX12_growsIn 27 = .ok (.iload_n 1, 1) := by decide +kernel
theorem dX12_growsIn_28 : decode cX12_growsIn 28 = .ok (.bipush (-9), 2) := by decide +kernel
theorem dX12_growsIn_30 : decode cX12_growsIn 30 = .ok (.if_icmp .eq 69, 3) := by decide +kernel
theorem dX12_growsIn_33 : decode cX12_growsIn 33 = .ok (.aload_n 0, 1) := by decide +kernel
theorem dX12_growsIn_34 : decode cX12_growsIn 34 = .ok (.iload_n 3, 1) := by decide +kernel
theorem dX12_growsIn_35 : decode cX12_growsIn 35 = .ok (.invokevirtual 200, 3) := by decide +kernel
theorem dX12_growsIn_38 : decode cX12_growsIn 38 = .ok (.istore 4, 2) := by decide +kernel
theorem dX12_growsIn_40 : decode cX12_growsIn 40 = .ok (.aload_n 0, 1) := by decide +kernel
theorem dX12_growsIn_41 : decode cX12_growsIn 41 = .ok (.iload_n 3, 1) := by decide +kernel
theorem dX12_growsIn_42 : decode cX12_growsIn 42 = .ok (.invokevirtual 203, 3) := by decide +kernel
theorem dX12_growsIn_45 : decode cX12_growsIn 45 = .ok (.istore 5, 2) := by decide +kernel
theorem dX12_growsIn_47 : decode cX12_growsIn 47 = .ok (.iload_n 2, 1) := by decide +kernel
theorem dX12_growsIn_48 : decode cX12_growsIn 48 = .ok (.iload 4, 2) := by decide +kernel
theorem dX12_growsIn_50 : decode cX12_growsIn 50 = .ok (.aload_n 0, 1) := by decide +kernel
theorem dX12_growsIn_51 : decode cX12_growsIn 51 = .ok (.getfield 53, 3) := by decide +kernel
theorem dX12_growsIn_54 : decode cX12_growsIn 54 = .ok (.iload_n 3, 1) := by decide +kernel
theorem dX12_growsIn_55 : decode cX12_growsIn 55 = .ok (.iaload, 1) := by decide +kernel
theorem dX12_growsIn_56 : decode cX12_growsIn 56 = .ok (.if_icmp .ne 14, 3) := by decide +kernel
theorem dX12_growsIn_59 : decode cX12_growsIn 59 = .ok (.iload 5, 2) := by decide +kernel
theorem dX12_growsIn_61 : decode cX12_growsIn 61 = .ok (.aload_n 0, 1) := by decide +kernel
theorem dX12_growsIn_62 : decode cX12_growsIn 62 = .ok (.getfield 56, 3) := by decide +kernel
theorem dX12_growsIn_65 : decode cX12_growsIn 65 = .ok (.iload_n 3, 1) := by decide +kernel
theorem dX12_growsIn_66 : decode cX12_growsIn 66 = .ok (.iaload, 1) := by decide +kernel
theorem dX12_growsIn_67 : decode cX12_growsIn 67 = .ok (.if_icmp .eq 7, 3) := by decide +kernel
theorem dX12_growsIn_70 : decode cX12_growsIn 70 = .ok (.iconst 1, 1) := by decide +kernel
theorem dX12_growsIn_71 : decode cX12_growsIn 71 = .ok (.goto 4, 3) := by decide +kernel
theorem dX12_growsIn_74 : decode cX12_growsIn 74 = .ok (.iconst 0, 1) := by decide +kernel
theorem dX12_growsIn_75 : decode cX12_growsIn 75 = .ok (.ior, 1) := by decide +kernel
theorem dX12_growsIn_76 : decode cX12_growsIn 76 = .ok (.istore_n 2, 1) := by decide +kernel
theorem dX12_growsIn_77 : decode cX12_growsIn 77 = .ok (.aload_n 0, 1) := by decide +kernel
theorem dX12_growsIn_78 : decode cX12_growsIn 78 = .ok (.getfield 53, 3) := by decide +kernel
theorem dX12_growsIn_81 : decode cX12_growsIn 81 = .ok (.iload_n 3, 1) := by decide +kernel
theorem dX12_growsIn_82 : decode cX12_growsIn 82 = .ok (.iload 4, 2) := by decide +kernel
theorem dX12_growsIn_84 : decode cX12_growsIn 84 = .ok (.iastore, 1) := by decide +kernel
theorem dX12_growsIn_85 : decode cX12_growsIn 85 = .ok (.aload_n 0, 1) := by decide +kernel
theorem dX12_growsIn_86 : decode cX12_growsIn 86 = .ok (.getfield 56, 3) := by decide +kernel
theorem dX12_growsIn_89 : decode cX12_growsIn 89 = .ok (.iload_n 3, 1) := by decide +kernel
theorem dX12_growsIn_90 : decode cX12_growsIn 90 = .ok (.iload 5, 2) := by decide +kernel
theorem dX12_growsIn_92 : decode cX12_growsIn 92 = .ok (.iastore, 1) := by decide +kernel
theorem dX12_growsIn_93 : decode cX12_growsIn 93 = .ok (.iinc 3 (-1), 3) := by decide +kernel
theorem dX12_growsIn_96 : decode cX12_growsIn 96 = .ok (.goto (-74), 3) := by decide +kernel
theorem dX12_growsIn_99 : decode cX12_growsIn 99 = .ok (.iload_n 2, 1) := by decide +kernel
theorem dX12_growsIn_100 : decode cX12_growsIn 100 = .ok (.ireturn, 1) := by decide +kernel
theorem dX12_clearIn_0 : decode cX12_clearIn 0 = .ok (.iload_n 1, 1) := by decide +kernel
theorem dX12_clearIn_1 : decode cX12_clearIn 1 = .ok (.istore_n 2, 1) := by decide +kernel
theorem dX12_clearIn_2 : decode cX12_clearIn 2 = .ok (.iload_n 1, 1) := by decide +kernel
theorem dX12_clearIn_3 : decode cX12_clearIn 3 = .ok (.bipush (-9), 2) := by decide +kernel
theorem dX12_clearIn_5 : decode cX12_clearIn 5 = .ok (.if_icmp .eq 33, 3) := by decide +kernel
theorem dX12_clearIn_8 : decode cX12_clearIn 8 = .ok (.iload_n 2, 1) := by decide +kernel
theorem dX12_clearIn_9 : decode cX12_clearIn 9 = .ok (.aload_n 0, 1) := by decide +kernel
theorem dX12_clearIn_10 : decode cX12_clearIn 10 = .ok (.getfield 44, 3) := by decide +kernel
theorem dX12_clearIn_13 : decode cX12_clearIn 13 = .ok (.iload_n 1, 1) := by decide +kernel
theorem dX12_clearIn_14 : decode cX12_clearIn 14 = .ok (.iaload, 1) := by decide +kernel
theorem dX12_clearIn_15 : decode cX12_clearIn 15 = .ok (.if_icmp .ge 23, 3) := by decide +kernel
theorem dX12_clearIn_18 : decode cX12_clearIn 18 = .ok (.aload_n 0, 1) := by decide +kernel
theorem dX12_clearIn_19 : decode cX12_clearIn 19 = .ok (.getfield 53, 3) := by decide +kernel
theorem dX12_clearIn_22 : decode cX12_clearIn 22 = .ok (.iload_n 2, 1) := by decide +kernel
theorem dX12_clearIn_23 : decode cX12_clearIn 23 = .ok (.iconst 0, 1) := by decide +kernel
theorem dX12_clearIn_24 : decode cX12_clearIn 24 = .ok (.iastore, 1) := by decide +kernel
theorem dX12_clearIn_25 : decode cX12_clearIn 25 = .ok (.aload_n 0, 1) := by decide +kernel
theorem dX12_clearIn_26 : decode cX12_clearIn 26 = .ok (.getfield 56, 3) := by decide +kernel
theorem dX12_clearIn_29 : decode cX12_clearIn 29 = .ok (.iload_n 2, 1) := by decide +kernel
theorem dX12_clearIn_30 : decode cX12_clearIn 30 = .ok (.iconst 0, 1) := by decide +kernel
theorem dX12_clearIn_31 : decode cX12_clearIn 31 = .ok (.iastore, 1) := by decide +kernel
theorem dX12_clearIn_32 : decode cX12_clearIn 32 = .ok (.iinc 2 1, 3) := by decide +kernel
theorem dX12_clearIn_35 : decode cX12_clearIn 35 = .ok (.goto (-33), 3) := by decide +kernel
theorem dX12_clearIn_38 : decode cX12_clearIn 38 = .ok (.return_, 1) := by decide +kernel
theorem dX12_may_0 : decode cX12_may 0 = .ok (.iload_n 1, 1) := by decide +kernel
theorem dX12_may_1 : decode cX12_may 1 = .ok (.iconst (-1), 1) := by decide +kernel
theorem dX12_may_2 : decode cX12_may 2 = .ok (.iconst 3, 1) := by decide +kernel
theorem dX12_may_3 : decode cX12_may 3 = .ok (.invokestatic 74, 3) := by decide +kernel
theorem dX12_may_6 : decode cX12_may 6 = .ok (.ifCond .eq 21, 3) := by decide +kernel
theorem dX12_may_9 : decode cX12_may 9 = .ok (.iload_n 2, 1) := by decide +kernel
theorem dX12_may_10 : decode cX12_may 10 = .ok (.iconst 0, 1) := by decide +kernel
theorem dX12_may_11 : decode cX12_may 11 = .ok (.iconst 5, 1) := by decide +kernel
theorem dX12_may_12 : decode cX12_may 12 = .ok (.invokestatic 74, 3) := by decide +kernel
theorem dX12_may_15 : decode cX12_may 15 = .ok (.ifCond .eq 12, 3) := by decide +kernel
theorem dX12_may_18 : decode cX12_may 18 = .ok (.iload_n 3, 1) := by decide +kernel
theorem dX12_may_19 : decode cX12_may 19 = .ok (.iconst 0, 1) := by decide +kernel
theorem dX12_may_20 : decode cX12_may 20 = .ok (.iconst 3, 1) := by decide +kernel
theorem dX12_may_21 : decode cX12_may 21 = .ok (.invokestatic 74, 3) := by decide +kernel
theorem dX12_may_24 : decode cX12_may 24 = .ok (.ifCond .ne 5, 3) := by decide +kernel
theorem dX12_may_27 : decode cX12_may 27 = .ok (.iconst (-1), 1) := by decide +kernel
theorem dX12_may_28 : decode cX12_may 28 = .ok (.ireturn, 1) := by decide +kernel
theorem dX12_may_29 : decode cX12_may 29 = .ok (.iload_n 1, 1) := by decide +kernel
theorem dX12_may_30 : decode cX12_may 30 = .ok (.iconst (-1), 1) := by decide +kernel
theorem dX12_may_31 : decode cX12_may 31 = .ok (.if_icmp .ne 12, 3) := by decide +kernel
theorem dX12_may_34 : decode cX12_may 34 = .ok (.aload_n 0, 1) := by decide +kernel
theorem dX12_may_35 : decode cX12_may 35 = .ok (.getfield 14, 3) := by decide +kernel
theorem dX12_may_38 : decode cX12_may 38 = .ok (.iconst 0, 1) := by decide +kernel
theorem dX12_may_39 : decode cX12_may 39 = .ok (.iaload, 1) := by decide +kernel
theorem dX12_may_40 : decode cX12_may 40 = .ok (.goto 11, 3) := by decide +kernel
theorem dX12_may_43 : decode cX12_may 43 = .ok (.aload_n 0, 1) := by decide +kernel
theorem dX12_may_44 : decode cX12_may 44 = .ok (.getfield 14, 3) := by decide +kernel
theorem dX12_may_47 : decode cX12_may 47 = .ok (.iconst 1, 1) := by decide +kernel
theorem dX12_may_48 : decode cX12_may 48 = .ok (.iload_n 1, 1) := by decide +kernel
theorem dX12_may_49 : decode cX12_may 49 = .ok (.iadd, 1) := by decide +kernel
theorem dX12_may_50 : decode cX12_may 50 = .ok (.iaload, 1) := by decide +kernel
theorem dX12_may_51 : decode cX12_may 51 = .ok (.istore 4, 2) := by decide +kernel
theorem dX12_may_53 : decode cX12_may 53 = .ok (.iload 4, 2) := by decide +kernel
theorem dX12_may_55 : decode cX12_may 55 = .ok (.bipush (-9), 2) := by decide +kernel
theorem dX12_may_57 : decode cX12_may 57 = .ok (.if_icmp .ne 6, 3) := by decide +kernel
theorem dX12_may_60 : decode cX12_may 60 = .ok (.bipush (-2), 2) := by decide +kernel
theorem dX12_may_62 : decode cX12_may 62 = .ok (.ireturn, 1) := by decide +kernel
theorem dX12_may_63 : decode cX12_may 63 = .ok (.iconst 0, 1) := by decide +kernel
theorem dX12_may_64 : decode cX12_may 64 = .ok (.istore 5, 2) := by decide +kernel
theorem dX12_may_66 : decode cX12_may 66 = .ok (.iload 5, 2) := by decide +kernel
theorem dX12_may_68 : decode cX12_may 68 = .ok (.iconst 5, 1) := by decide +kernel
theorem dX12_may_69 : decode cX12_may 69 = .ok (.if_icmp .ge 20, 3) := by decide +kernel
theorem dX12_may_72 : decode cX12_may 72 = .ok (.aload_n 0, 1) := by decide +kernel
theorem dX12_may_73 : decode cX12_may 73 = .ok (.aload_n 0, 1) := by decide +kernel
theorem dX12_may_74 : decode cX12_may 74 = .ok (.getfield 14, 3) := by decide +kernel
theorem dX12_may_77 : decode cX12_may 77 = .ok (.iload 5, 2) := by decide +kernel
theorem dX12_may_79 : decode cX12_may 79 = .ok (.iaload, 1) := by decide +kernel
theorem dX12_may_80 : decode cX12_may 80 = .ok (.invokevirtual 206, 3) := by decide +kernel
theorem dX12_may_83 : decode cX12_may 83 = .ok (.iinc 5 1, 3) := by decide +kernel
theorem dX12_may_86 : decode cX12_may 86 = .ok (.goto (-20), 3) := by decide +kernel
theorem dX12_may_89 : decode cX12_may 89 = .ok (.iconst 1, 1) := by decide +kernel
theorem dX12_may_90 : decode cX12_may 90 = .ok (.istore 5, 2) := by decide +kernel
theorem dX12_may_92 : decode cX12_may 92 = .ok (.iload 5, 2) := by decide +kernel
theorem dX12_may_94 : decode cX12_may 94 = .ok (.ifCond .eq 40, 3) := by decide +kernel
theorem dX12_may_97 : decode cX12_may 97 = .ok (.iconst 0, 1) := by decide +kernel
theorem dX12_may_98 : decode cX12_may 98 = .ok (.istore 5, 2) := by decide +kernel
theorem dX12_may_100 : decode cX12_may 100 = .ok (.iconst 0, 1) := by decide +kernel
theorem dX12_may_101 : decode cX12_may 101 = .ok (.istore 6, 2) := by decide +kernel
theorem dX12_may_103 : decode cX12_may 103 = .ok (.iload 6, 2) := by decide +kernel
theorem dX12_may_105 : decode cX12_may 105 = .ok (.iconst 5, 1) := by decide +kernel
theorem dX12_may_106 : decode cX12_may 106 = .ok (.if_icmp .ge 25, 3) := by decide +kernel
theorem dX12_may_109 : decode cX12_may 109 = .ok (.iload 5, 2) := by decide +kernel
theorem dX12_may_111 : decode cX12_may 111 = .ok (.aload_n 0, 1) := by decide +kernel
theorem dX12_may_112 : decode cX12_may 112 = .ok (.aload_n 0, 1) := by decide +kernel
theorem dX12_may_113 : decode cX12_may 113 = .ok (.getfield 14, 3) := by decide +kernel
theorem dX12_may_116 : decode cX12_may 116 = .ok (.iload 6, 2) := by decide +kernel
theorem dX12_may_118 : decode cX12_may 118 = .ok (.iaload, 1) := by decide +kernel
theorem dX12_may_119 : decode cX12_may 119 = .ok (.invokevirtual 209, 3) := by decide +kernel
theorem dX12_may_122 : decode cX12_may 122 = .ok (.ior, 1) := by decide +kernel
theorem dX12_may_123 : decode cX12_may 123 = .ok (.istore 5, 2) := by decide +kernel
theorem dX12_may_125 : decode cX12_may 125 = .ok (.iinc 6 1, 3) := by decide +kernel
theorem dX12_may_128 : decode cX12_may 128 = .ok (.goto (-25), 3) := by decide +kernel
theorem dX12_may_131 : decode cX12_may 131 = .ok (.goto (-39), 3) := by decide +kernel
theorem dX12_may_134 : decode cX12_may 134 = .ok (.aload_n 0, 1) := by decide +kernel
theorem dX12_may_135 : decode cX12_may 135 = .ok (.getfield 53, 3) := by decide +kernel
theorem dX12_may_138 : decode cX12_may 138 = .ok (.iload 4, 2) := by decide +kernel
theorem dX12_may_140 : decode cX12_may 140 = .ok (.iaload, 1) := by decide +kernel
theorem dX12_may_141 : decode cX12_may 141 = .ok (.iconst 4, 1) := by decide +kernel
theorem dX12_may_142 : decode cX12_may 142 = .ok (.iload_n 2, 1) := by decide +kernel
theorem dX12_may_143 : decode cX12_may 143 = .ok (.imul, 1) := by decide +kernel
theorem dX12_may_144 : decode cX12_may 144 = .ok (.iload_n 3, 1) := by decide +kernel
theorem dX12_may_145 : decode cX12_may 145 = .ok (.iadd, 1) := by decide +kernel
theorem dX12_may_146 : decode cX12_may 146 = .ok (.ishr, 1) := by decide +kernel
theorem dX12_may_147 : decode cX12_may 147 = .ok (.iconst 1, 1) := by decide +kernel
theorem dX12_may_148 : decode cX12_may 148 = .ok (.iand, 1) := by decide +kernel
theorem dX12_may_149 : decode cX12_may 149 = .ok (.ireturn, 1) := by decide +kernel
theorem dX12_of_0 : decode cX12_of 0 = .ok (.aload_n 0, 1) := by decide +kernel
theorem dX12_of_1 : decode cX12_of 1 = .ok (.getfield 21, 3) := by decide +kernel
theorem dX12_of_4 : decode cX12_of 4 = .ok (.bipush 7, 2) := by decide +kernel
theorem dX12_of_6 : decode cX12_of 6 = .ok (.iload_n 1, 1) := by decide +kernel
theorem dX12_of_7 : decode cX12_of 7 = .ok (.imul, 1) := by decide +kernel
theorem dX12_of_8 : decode cX12_of 8 = .ok (.iload_n 2, 1) := by decide +kernel
theorem dX12_of_9 : decode cX12_of 9 = .ok (.iadd, 1) := by decide +kernel
theorem dX12_of_10 : decode cX12_of 10 = .ok (.iaload, 1) := by decide +kernel
theorem dX12_of_11 : decode cX12_of 11 = .ok (.ireturn, 1) := by decide +kernel
theorem dX12_depth_0 : decode cX12_depth 0 = .ok (.aload_n 0, 1) := by decide +kernel
theorem dX12_depth_1 : decode cX12_depth 1 = .ok (.getfield 14, 3) := by decide +kernel
theorem dX12_depth_4 : decode cX12_depth 4 = .ok (.bipush 7, 2) := by decide +kernel
theorem dX12_depth_6 : decode cX12_depth 6 = .ok (.iaload, 1) := by decide +kernel
theorem dX12_depth_7 : decode cX12_depth 7 = .ok (.bipush (-9), 2) := by decide +kernel
theorem dX12_depth_9 : decode cX12_depth 9 = .ok (.if_icmp .ne 7, 3) := by decide +kernel
theorem dX12_depth_12 : decode cX12_depth 12 = .ok (.iconst 0, 1) := by decide +kernel
theorem dX12_depth_13 : decode cX12_depth 13 = .ok (.goto 16, 3) := by decide +kernel
theorem dX12_depth_16 : decode cX12_depth 16 = .ok (.aload_n 0, 1) := by decide +kernel
theorem dX12_depth_17 : decode cX12_depth 17 = .ok (.aload_n 0, 1) := by decide +kernel
theorem dX12_depth_18 : decode cX12_depth 18 = .ok (.getfield 14, 3) := by decide +kernel
theorem dX12_depth_21 : decode cX12_depth 21 = .ok (.bipush 7, 2) := by decide +kernel
theorem dX12_depth_23 : decode cX12_depth 23 = .ok (.iaload, 1) := by decide +kernel
theorem dX12_depth_24 : decode cX12_depth 24 = .ok (.bipush 6, 2) := by decide +kernel
theorem dX12_depth_26 : decode cX12_depth 26 = .ok (.invokevirtual 213, 3) := by decide +kernel
theorem dX12_depth_29 : decode cX12_depth 29 = .ok (.ireturn, 1) := by decide +kernel
theorem dX12_push_0 : decode cX12_push 0 = .ok (.aload_n 0, 1) := by decide +kernel
theorem dX12_push_1 : decode cX12_push 1 = .ok (.getfield 14, 3) := by decide +kernel
theorem dX12_push_4 : decode cX12_push 4 = .ok (.bipush 21, 2) := by decide +kernel
theorem dX12_push_6 : decode cX12_push 6 = .ok (.iaload, 1) := by decide +kernel
theorem dX12_push_7 : decode cX12_push 7 = .ok (.istore 6, 2) := by decide +kernel
theorem dX12_push_9 : decode cX12_push 9 = .ok (.aload_n 0, 1) := by decide +kernel
theorem dX12_push_10 : decode cX12_push 10 = .ok (.getfield 14, 3) := by decide +kernel
theorem dX12_push_13 : decode cX12_push 13 = .ok (.bipush 21, 2) := by decide +kernel
theorem dX12_push_15 : decode cX12_push 15 = .ok (.dup2, 1) := by decide +kernel
theorem dX12_push_16 : decode cX12_push 16 = .ok (.iaload, 1) := by decide +kernel
theorem dX12_push_17 : decode cX12_push 17 = .ok (.iconst 1, 1) := by decide +kernel
theorem dX12_push_18 : decode cX12_push 18 = .ok (.iadd, 1) := by decide +kernel
theorem dX12_push_19 : decode cX12_push 19 = .ok (.iastore, 1) := by decide +kernel
theorem dX12_push_20 : decode cX12_push 20 = .ok (.aload_n 0, 1) := by decide +kernel
theorem dX12_push_21 : decode cX12_push 21 = .ok (.getfield 21, 3) := by decide +kernel
theorem dX12_push_24 : decode cX12_push 24 = .ok (.bipush 7, 2) := by decide +kernel
theorem dX12_push_26 : decode cX12_push 26 = .ok (.iload 6, 2) := by decide +kernel
theorem dX12_push_28 : decode cX12_push 28 = .ok (.imul, 1) := by decide +kernel
theorem dX12_push_29 : decode cX12_push 29 = .ok (.iconst 0, 1) := by decide +kernel
theorem dX12_push_30 : decode cX12_push 30 = .ok (.iadd, 1) := by decide +kernel
theorem dX12_push_31 : decode cX12_push 31 = .ok (.iload_n 1, 1) := by decide +kernel
theorem dX12_push_32 : decode cX12_push 32 = .ok (.iastore, 1) := by decide +kernel
theorem dX12_push_33 : decode cX12_push 33 = .ok (.aload_n 0, 1) := by decide +kernel
theorem dX12_push_34 : decode cX12_push 34 = .ok (.getfield 21, 3) := by decide +kernel
theorem dX12_push_37 : decode cX12_push 37 = .ok (.bipush 7, 2) := by decide +kernel
theorem dX12_push_39 : decode cX12_push 39 = .ok (.iload 6, 2) := by decide +kernel
theorem dX12_push_41 : decode cX12_push 41 = .ok (.imul, 1) := by decide +kernel
theorem dX12_push_42 : decode cX12_push 42 = .ok (.iconst 1, 1) := by decide +kernel
theorem dX12_push_43 : decode cX12_push 43 = .ok (.iadd, 1) := by decide +kernel
theorem dX12_push_44 : decode cX12_push 44 = .ok (.iload_n 2, 1) := by decide +kernel
theorem dX12_push_45 : decode cX12_push 45 = .ok (.iastore, 1) := by decide +kernel
theorem dX12_push_46 : decode cX12_push 46 = .ok (.aload_n 0, 1) := by decide +kernel
theorem dX12_push_47 : decode cX12_push 47 = .ok (.getfield 21, 3) := by decide +kernel
theorem dX12_push_50 : decode cX12_push 50 = .ok (.bipush 7, 2) := by decide +kernel
theorem dX12_push_52 : decode cX12_push 52 = .ok (.iload 6, 2) := by decide +kernel
theorem dX12_push_54 : decode cX12_push 54 = .ok (.imul, 1) := by decide +kernel
theorem dX12_push_55 : decode cX12_push 55 = .ok (.iconst 2, 1) := by decide +kernel
theorem dX12_push_56 : decode cX12_push 56 = .ok (.iadd, 1) := by decide +kernel
theorem dX12_push_57 : decode cX12_push 57 = .ok (.iload_n 3, 1) := by decide +kernel
theorem dX12_push_58 : decode cX12_push 58 = .ok (.iastore, 1) := by decide +kernel
theorem dX12_push_59 : decode cX12_push 59 = .ok (.aload_n 0, 1) := by decide +kernel
theorem dX12_push_60 : decode cX12_push 60 = .ok (.getfield 21, 3) := by decide +kernel
theorem dX12_push_63 : decode cX12_push 63 = .ok (.bipush 7, 2) := by decide +kernel
theorem dX12_push_65 : decode cX12_push 65 = .ok (.iload 6, 2) := by decide +kernel
theorem dX12_push_67 : decode cX12_push 67 = .ok (.imul, 1) := by decide +kernel
theorem dX12_push_68 : decode cX12_push 68 = .ok (.iconst 3, 1) := by decide +kernel
theorem dX12_push_69 : decode cX12_push 69 = .ok (.iadd, 1) := by decide +kernel
theorem dX12_push_70 : decode cX12_push 70 = .ok (.iload 4, 2) := by decide +kernel
theorem dX12_push_72 : decode cX12_push 72 = .ok (.iastore, 1) := by decide +kernel
theorem dX12_push_73 : decode cX12_push 73 = .ok (.aload_n 0, 1) := by decide +kernel
theorem dX12_push_74 : decode cX12_push 74 = .ok (.getfield 21, 3) := by decide +kernel
theorem dX12_push_77 : decode cX12_push 77 = .ok (.bipush 7, 2) := by decide +kernel
theorem dX12_push_79 : decode cX12_push 79 = .ok (.iload 6, 2) := by decide +kernel
theorem dX12_push_81 : decode cX12_push 81 = .ok (.imul, 1) := by decide +kernel
theorem dX12_push_82 : decode cX12_push 82 = .ok (.iconst 4, 1) := by decide +kernel
theorem dX12_push_83 : decode cX12_push 83 = .ok (.iadd, 1) := by decide +kernel
theorem dX12_push_84 : decode cX12_push 84 = .ok (.iload 5, 2) := by decide +kernel
theorem dX12_push_86 : decode cX12_push 86 = .ok (.iastore, 1) := by decide +kernel
theorem dX12_push_87 : decode cX12_push 87 = .ok (.aload_n 0, 1) := by decide +kernel
theorem dX12_push_88 : decode cX12_push 88 = .ok (.getfield 21, 3) := by decide +kernel
theorem dX12_push_91 : decode cX12_push 91 = .ok (.bipush 7, 2) := by decide +kernel
theorem dX12_push_93 : decode cX12_push 93 = .ok (.iload 6, 2) := by decide +kernel
theorem dX12_push_95 : decode cX12_push 95 = .ok (.imul, 1) := by decide +kernel
theorem dX12_push_96 : decode cX12_push 96 = .ok (.iconst 5, 1) := by decide +kernel
theorem dX12_push_97 : decode cX12_push 97 = .ok (.iadd, 1) := by decide +kernel
theorem dX12_push_98 : decode cX12_push 98 = .ok (.aload_n 0, 1) := by decide +kernel
theorem dX12_push_99 : decode cX12_push 99 = .ok (.getfield 14, 3) := by decide +kernel
theorem dX12_push_102 : decode cX12_push 102 = .ok (.bipush 7, 2) := by decide +kernel
theorem dX12_push_104 : decode cX12_push 104 = .ok (.iaload, 1) := by decide +kernel
theorem dX12_push_105 : decode cX12_push 105 = .ok (.iastore, 1) := by decide +kernel
theorem dX12_push_106 : decode cX12_push 106 = .ok (.aload_n 0, 1) := by decide +kernel
theorem dX12_push_107 : decode cX12_push 107 = .ok (.getfield 21, 3) := by decide +kernel
theorem dX12_push_110 : decode cX12_push 110 = .ok (.bipush 7, 2) := by decide +kernel
theorem dX12_push_112 : decode cX12_push 112 = .ok (.iload 6, 2) := by decide +kernel
theorem dX12_push_114 : decode cX12_push 114 = .ok (.imul, 1) := by decide +kernel
theorem dX12_push_115 : decode cX12_push 115 = .ok (.bipush 6, 2) := by decide +kernel
theorem dX12_push_117 : decode cX12_push 117 = .ok (.iadd, 1) := by decide +kernel
theorem dX12_push_118 : decode cX12_push 118 = .ok (.aload_n 0, 1) := by decide +kernel
theorem dX12_push_119 : decode cX12_push 119 = .ok (.invokevirtual 216, 3) := by decide +kernel
theorem dX12_push_122 : decode cX12_push 122 = .ok (.iconst 1, 1) := by decide +kernel
theorem dX12_push_123 : decode cX12_push 123 = .ok (.iadd, 1) := by decide +kernel
theorem dX12_push_124 : decode cX12_push 124 = .ok (.iastore, 1) := by decide +kernel
theorem dX12_push_125 : decode cX12_push 125 = .ok (.aload_n 0, 1) := by decide +kernel
theorem dX12_push_126 : decode cX12_push 126 = .ok (.getfield 14, 3) := by decide +kernel
theorem dX12_push_129 : decode cX12_push 129 = .ok (.bipush 7, 2) := by decide +kernel
theorem dX12_push_131 : decode cX12_push 131 = .ok (.iload 6, 2) := by decide +kernel
theorem dX12_push_133 : decode cX12_push 133 = .ok (.iastore, 1) := by decide +kernel
theorem dX12_push_134 : decode cX12_push 134 = .ok (.aload_n 0, 1) := by decide +kernel
theorem dX12_push_135 : decode cX12_push 135 = .ok (.getfield 14, 3) := by decide +kernel
theorem dX12_push_138 : decode cX12_push 138 = .ok (.bipush 8, 2) := by decide +kernel
theorem dX12_push_140 : decode cX12_push 140 = .ok (.aload_n 0, 1) := by decide +kernel
theorem dX12_push_141 : decode cX12_push 141 = .ok (.invokevirtual 216, 3) := by decide +kernel
theorem dX12_push_144 : decode cX12_push 144 = .ok (.aload_n 0, 1) := by decide +kernel
theorem dX12_push_145 : decode cX12_push 145 = .ok (.getfield 14, 3) := by decide +kernel
theorem dX12_push_148 : decode cX12_push 148 = .ok (.bipush 8, 2) := by decide +kernel
theorem dX12_push_150 : decode cX12_push 150 = .ok (.iaload, 1) := by decide +kernel
theorem dX12_push_151 : decode cX12_push 151 = .ok (.if_icmp .le 10, 3) := by decide +kernel
theorem dX12_push_154 : decode cX12_push 154 = .ok (.aload_n 0, 1) := by decide +kernel
theorem dX12_push_155 : decode cX12_push 155 = .ok (.invokevirtual 216, 3) := by decide +kernel
theorem dX12_push_158 : decode cX12_push 158 = .ok (.goto 10, 3) := by decide +kernel
theorem dX12_push_161 : decode cX12_push 161 = .ok (.aload_n 0, 1) := by decide +kernel
theorem dX12_push_162 : decode cX12_push 162 = .ok (.getfield 14, 3) := by decide +kernel
theorem dX12_push_165 : decode cX12_push 165 = .ok (.bipush 8, 2) := by decide +kernel
theorem dX12_push_167 : decode cX12_push 167 = .ok (.iaload, 1) := by decide +kernel
theorem dX12_push_168 : decode cX12_push 168 = .ok (.iastore, 1) := by decide +kernel
theorem dX12_push_169 : decode cX12_push 169 = .ok (.return_, 1) := by decide +kernel
theorem dX12_focusOn_0 : decode cX12_focusOn 0 = .ok (.aload_n 0, 1) := by decide +kernel
theorem dX12_focusOn_1 : decode cX12_focusOn 1 = .ok (.getfield 14, 3) := by decide +kernel
theorem dX12_focusOn_4 : decode cX12_focusOn 4 = .ok (.bipush 16, 2) := by decide +kernel
theorem dX12_focusOn_6 : decode cX12_focusOn 6 = .ok (.iconst 2, 1) := by decide +kernel
theorem dX12_focusOn_7 : decode cX12_focusOn 7 = .ok (.iastore, 1) := by decide +kernel
theorem dX12_focusOn_8 : decode cX12_focusOn 8 = .ok (.aload_n 0, 1) := by decide +kernel
theorem dX12_focusOn_9 : decode cX12_focusOn 9 = .ok (.getfield 14, 3) := by decide +kernel
theorem dX12_focusOn_12 : decode cX12_focusOn 12 = .ok (.bipush 17, 2) := by decide +kernel
theorem dX12_focusOn_14 : decode cX12_focusOn 14 = .ok (.iload_n 1, 1) := by decide +kernel
theorem dX12_focusOn_15 : decode cX12_focusOn 15 = .ok (.iastore, 1) := by decide +kernel
theorem dX12_focusOn_16 : decode cX12_focusOn 16 = .ok (.aload_n 0, 1) := by decide +kernel
theorem dX12_focusOn_17 : decode cX12_focusOn 17 = .ok (.getfield 14, 3) := by decide +kernel
theorem dX12_focusOn_20 : decode cX12_focusOn 20 = .ok (.bipush 18, 2) := by decide +kernel
theorem dX12_focusOn_22 : decode cX12_focusOn 22 = .ok (.iload_n 2, 1) := by decide +kernel
theorem dX12_focusOn_23 : decode cX12_focusOn 23 = .ok (.iastore, 1) := by decide +kernel
theorem dX12_focusOn_24 : decode cX12_focusOn 24 = .ok (.aload_n 0, 1) := by decide +kernel
theorem dX12_focusOn_25 : decode cX12_focusOn 25 = .ok (.getfield 14, 3) := by decide +kernel
theorem dX12_focusOn_28 : decode cX12_focusOn 28 = .ok (.bipush 19, 2) := by decide +kernel
theorem dX12_focusOn_30 : decode cX12_focusOn 30 = .ok (.iload_n 3, 1) := by decide +kernel
theorem dX12_focusOn_31 : decode cX12_focusOn 31 = .ok (.iastore, 1) := by decide +kernel
theorem dX12_focusOn_32 : decode cX12_focusOn 32 = .ok (.return_, 1) := by decide +kernel
theorem dX12_become_0 : decode cX12_become 0 = .ok (.aload_n 0, 1) := by decide +kernel
theorem dX12_become_1 : decode cX12_become 1 = .ok (.getfield 14, 3) := by decide +kernel
theorem dX12_become_4 : decode cX12_become 4 = .ok (.bipush 16, 2) := by decide +kernel
theorem dX12_become_6 : decode cX12_become 6 = .ok (.iconst 1, 1) := by decide +kernel
theorem dX12_become_7 : decode cX12_become 7 = .ok (.iastore, 1) := by decide +kernel
theorem dX12_become_8 : decode cX12_become 8 = .ok (.aload_n 0, 1) := by decide +kernel
theorem dX12_become_9 : decode cX12_become 9 = .ok (.getfield 14, 3) := by decide +kernel
theorem dX12_become_12 : decode cX12_become 12 = .ok (.bipush 20, 2) := by decide +kernel
theorem dX12_become_14 : decode cX12_become 14 = .ok (.iload_n 1, 1) := by decide +kernel
theorem dX12_become_15 : decode cX12_become 15 = .ok (.iastore, 1) := by decide +kernel
theorem dX12_become_16 : decode cX12_become 16 = .ok (.aload_n 0, 1) := by decide +kernel
theorem dX12_become_17 : decode cX12_become 17 = .ok (.getfield 14, 3) := by decide +kernel
theorem dX12_become_20 : decode cX12_become 20 = .ok (.iconst 5, 1) := by decide +kernel
theorem dX12_become_21 : decode cX12_become 21 = .ok (.aload_n 0, 1) := by decide +kernel
theorem dX12_become_22 : decode cX12_become 22 = .ok (.getfield 14, 3) := by decide +kernel
theorem dX12_become_25 : decode cX12_become 25 = .ok (.bipush 7, 2) := by decide +kernel
theorem dX12_become_27 : decode cX12_become 27 = .ok (.iaload, 1) := by decide +kernel
theorem dX12_become_28 : decode cX12_become 28 = .ok (.bipush (-9), 2) := by decide +kernel
theorem dX12_become_30 : decode cX12_become 30 = .ok (.if_icmp .ne 7, 3) := by decide +kernel
theorem dX12_become_33 : decode cX12_become 33 = .ok (.iconst 2, 1) := by decide +kernel
theorem dX12_become_34 : decode cX12_become 34 = .ok (.goto 4, 3) := by decide +kernel
theorem dX12_become_37 : decode cX12_become 37 = .ok (.iconst 1, 1) := by decide +kernel
theorem dX12_become_38 : decode cX12_become 38 = .ok (.iastore, 1) := by decide +kernel
theorem dX12_become_39 : decode cX12_become 39 = .ok (.return_, 1) := by decide +kernel
theorem dX12_bindTo_0 : decode cX12_bindTo 0 = .ok (.aload_n 0, 1) := by decide +kernel
theorem dX12_bindTo_1 : decode cX12_bindTo 1 = .ok (.getfield 14, 3) := by decide +kernel
theorem dX12_bindTo_4 : decode cX12_bindTo 4 = .ok (.bipush 22, 2) := by decide +kernel
theorem dX12_bindTo_6 : decode cX12_bindTo 6 = .ok (.iaload, 1) := by decide +kernel
theorem dX12_bindTo_7 : decode cX12_bindTo 7 = .ok (.istore 4, 2) := by decide +kernel
theorem dX12_bindTo_9 : decode cX12_bindTo 9 = .ok (.aload_n 0, 1) := by decide +kernel
theorem dX12_bindTo_10 : decode cX12_bindTo 10 = .ok (.getfield 14, 3) := by decide +kernel
theorem dX12_bindTo_13 : decode cX12_bindTo 13 = .ok (.bipush 22, 2) := by decide +kernel
theorem dX12_bindTo_15 : decode cX12_bindTo 15 = .ok (.dup2, 1) := by decide +kernel
theorem dX12_bindTo_16 : decode cX12_bindTo 16 = .ok (.iaload, 1) := by decide +kernel
theorem dX12_bindTo_17 : decode cX12_bindTo 17 = .ok (.iconst 1, 1) := by decide +kernel
theorem dX12_bindTo_18 : decode cX12_bindTo 18 = .ok (.iadd, 1) := by decide +kernel
theorem dX12_bindTo_19 : decode cX12_bindTo 19 = .ok (.iastore, 1) := by decide +kernel
theorem dX12_bindTo_20 : decode cX12_bindTo 20 = .ok (.aload_n 0, 1) := by decide +kernel
theorem dX12_bindTo_21 : decode cX12_bindTo 21 = .ok (.getfield 14, 3) := by decide +kernel
theorem dX12_bindTo_24 : decode cX12_bindTo 24 = .ok (.bipush 30, 2) := by decide +kernel
theorem dX12_bindTo_26 : decode cX12_bindTo 26 = .ok (.iconst 3, 1) := by decide +kernel
theorem dX12_bindTo_27 : decode cX12_bindTo 27 = .ok (.iload 4, 2) := by decide +kernel
theorem dX12_bindTo_29 : decode cX12_bindTo 29 = .ok (.imul, 1) := by decide +kernel
theorem dX12_bindTo_30 : decode cX12_bindTo 30 = .ok (.iadd, 1) := by decide +kernel
theorem dX12_bindTo_31 : decode cX12_bindTo 31 = .ok (.iload_n 2, 1) := by decide +kernel
theorem dX12_bindTo_32 : decode cX12_bindTo 32 = .ok (.iastore, 1) := by decide +kernel
theorem dX12_bindTo_33 : decode cX12_bindTo 33 = .ok (.aload_n 0, 1) := by decide +kernel
theorem dX12_bindTo_34 : decode cX12_bindTo 34 = .ok (.getfield 14, 3) := by decide +kernel
theorem dX12_bindTo_37 : decode cX12_bindTo 37 = .ok (.bipush 30, 2) := by decide +kernel
theorem dX12_bindTo_39 : decode cX12_bindTo 39 = .ok (.iconst 3, 1) := by decide +kernel
theorem dX12_bindTo_40 : decode cX12_bindTo 40 = .ok (.iload 4, 2) := by decide +kernel
theorem dX12_bindTo_42 : decode cX12_bindTo 42 = .ok (.imul, 1) := by decide +kernel
theorem dX12_bindTo_43 : decode cX12_bindTo 43 = .ok (.iadd, 1) := by decide +kernel
theorem dX12_bindTo_44 : decode cX12_bindTo 44 = .ok (.iconst 1, 1) := by decide +kernel
theorem dX12_bindTo_45 : decode cX12_bindTo 45 = .ok (.iadd, 1) := by decide +kernel
theorem dX12_bindTo_46 : decode cX12_bindTo 46 = .ok (.iload_n 3, 1) := by decide +kernel
theorem dX12_bindTo_47 : decode cX12_bindTo 47 = .ok (.iastore, 1) := by decide +kernel
theorem dX12_bindTo_48 : decode cX12_bindTo 48 = .ok (.aload_n 0, 1) := by decide +kernel
theorem dX12_bindTo_49 : decode cX12_bindTo 49 = .ok (.getfield 14, 3) := by decide +kernel
theorem dX12_bindTo_52 : decode cX12_bindTo 52 = .ok (.bipush 30, 2) := by decide +kernel
theorem dX12_bindTo_54 : decode cX12_bindTo 54 = .ok (.iconst 3, 1) := by decide +kernel
theorem dX12_bindTo_55 : decode cX12_bindTo 55 = .ok (.iload 4, 2) := by decide +kernel
theorem dX12_bindTo_57 : decode cX12_bindTo 57 = .ok (.imul, 1) := by decide +kernel
theorem dX12_bindTo_58 : decode cX12_bindTo 58 = .ok (.iadd, 1) := by decide +kernel
theorem dX12_bindTo_59 : decode cX12_bindTo 59 = .ok (.iconst 2, 1) := by decide +kernel
theorem dX12_bindTo_60 : decode cX12_bindTo 60 = .ok (.iadd, 1) := by decide +kernel
theorem dX12_bindTo_61 : decode cX12_bindTo 61 = .ok (.iload_n 1, 1) := by decide +kernel
theorem dX12_bindTo_62 : decode cX12_bindTo 62 = .ok (.iastore, 1) := by decide +kernel
theorem dX12_bindTo_63 : decode cX12_bindTo 63 = .ok (.iload 4, 2) := by decide +kernel
theorem dX12_bindTo_65 : decode cX12_bindTo 65 = .ok (.ireturn, 1) := by decide +kernel
theorem dX12_valueOf_0 : decode cX12_valueOf 0 = .ok (.aload_n 0, 1) := by decide +kernel
theorem dX12_valueOf_1 : decode cX12_valueOf 1 = .ok (.getfield 14, 3) := by decide +kernel
theorem dX12_valueOf_4 : decode cX12_valueOf 4 = .ok (.bipush 18, 2) := by decide +kernel
theorem dX12_valueOf_6 : decode cX12_valueOf 6 = .ok (.iaload, 1) := by decide +kernel
theorem dX12_valueOf_7 : decode cX12_valueOf 7 = .ok (.istore_n 2, 1) := by decide +kernel
theorem dX12_valueOf_8 : decode cX12_valueOf 8 = .ok (.aload_n 0, 1) := by decide +kernel
theorem dX12_valueOf_9 : decode cX12_valueOf 9 = .ok (.getfield 14, 3) := by decide +kernel
theorem dX12_valueOf_12 : decode cX12_valueOf 12 = .ok (.bipush 30, 2) := by decide +kernel
theorem dX12_valueOf_14 : decode cX12_valueOf 14 = .ok (.iconst 3, 1) := by decide +kernel
theorem dX12_valueOf_15 : decode cX12_valueOf 15 = .ok (.iload_n 2, 1) := by decide +kernel
theorem dX12_valueOf_16 : decode cX12_valueOf 16 = .ok (.imul, 1) := by decide +kernel
theorem dX12_valueOf_17 : decode cX12_valueOf 17 = .ok (.iadd, 1) := by decide +kernel
theorem dX12_valueOf_18 : decode cX12_valueOf 18 = .ok (.iaload, 1) := by decide +kernel
theorem dX12_valueOf_19 : decode cX12_valueOf 19 = .ok (.iload_n 1, 1) := by decide +kernel
theorem dX12_valueOf_20 : decode cX12_valueOf 20 = .ok (.if_icmp .eq 20, 3) := by decide +kernel
theorem dX12_valueOf_23 : decode cX12_valueOf 23 = .ok (.aload_n 0, 1) := by decide +kernel
theorem dX12_valueOf_24 : decode cX12_valueOf 24 = .ok (.getfield 14, 3) := by decide +kernel
theorem dX12_valueOf_27 : decode cX12_valueOf 27 = .ok (.bipush 30, 2) := by decide +kernel
theorem dX12_valueOf_29 : decode cX12_valueOf 29 = .ok (.iconst 3, 1) := by decide +kernel
theorem dX12_valueOf_30 : decode cX12_valueOf 30 = .ok (.iload_n 2, 1) := by decide +kernel
theorem dX12_valueOf_31 : decode cX12_valueOf 31 = .ok (.imul, 1) := by decide +kernel
theorem dX12_valueOf_32 : decode cX12_valueOf 32 = .ok (.iadd, 1) := by decide +kernel
theorem dX12_valueOf_33 : decode cX12_valueOf 33 = .ok (.iconst 2, 1) := by decide +kernel
theorem dX12_valueOf_34 : decode cX12_valueOf 34 = .ok (.iadd, 1) := by decide +kernel
theorem dX12_valueOf_35 : decode cX12_valueOf 35 = .ok (.iaload, 1) := by decide +kernel
theorem dX12_valueOf_36 : decode cX12_valueOf 36 = .ok (.istore_n 2, 1) := by decide +kernel
theorem dX12_valueOf_37 : decode cX12_valueOf 37 = .ok (.goto (-29), 3) := by decide +kernel
theorem dX12_valueOf_40 : decode cX12_valueOf 40 = .ok (.aload_n 0, 1) := by decide +kernel
theorem dX12_valueOf_41 : decode cX12_valueOf 41 = .ok (.getfield 14, 3) := by decide +kernel
theorem dX12_valueOf_44 : decode cX12_valueOf 44 = .ok (.bipush 30, 2) := by decide +kernel
theorem dX12_valueOf_46 : decode cX12_valueOf 46 = .ok (.iconst 3, 1) := by decide +kernel
theorem dX12_valueOf_47 : decode cX12_valueOf 47 = .ok (.iload_n 2, 1) := by decide +kernel
theorem dX12_valueOf_48 : decode cX12_valueOf 48 = .ok (.imul, 1) := by decide +kernel
theorem dX12_valueOf_49 : decode cX12_valueOf 49 = .ok (.iadd, 1) := by decide +kernel
theorem dX12_valueOf_50 : decode cX12_valueOf 50 = .ok (.iconst 1, 1) := by decide +kernel
theorem dX12_valueOf_51 : decode cX12_valueOf 51 = .ok (.iadd, 1) := by decide +kernel
theorem dX12_valueOf_52 : decode cX12_valueOf 52 = .ok (.iaload, 1) := by decide +kernel
theorem dX12_valueOf_53 : decode cX12_valueOf 53 = .ok (.ireturn, 1) := by decide +kernel
theorem dX12_frameOf_0 : decode cX12_frameOf 0 = .ok (.iload_n 0, 1) := by decide +kernel
theorem dX12_frameOf_1 : decode cX12_frameOf 1 = .ok (.tableswitch 82 6 15 #[55, 57, 59, 61, 64, 67, 70, 73, 76, 79], 55) := by decide +kernel
theorem dX12_frameOf_56 : decode cX12_frameOf 56 = .ok (.iconst 3, 1) := by decide +kernel
theorem dX12_frameOf_57 : decode cX12_frameOf 57 = .ok (.ireturn, 1) := by decide +kernel
theorem dX12_frameOf_58 : decode cX12_frameOf 58 = .ok (.iconst 4, 1) := by decide +kernel
theorem dX12_frameOf_59 : decode cX12_frameOf 59 = .ok (.ireturn, 1) := by decide +kernel
theorem dX12_frameOf_60 : decode cX12_frameOf 60 = .ok (.iconst 5, 1) := by decide +kernel
theorem dX12_frameOf_61 : decode cX12_frameOf 61 = .ok (.ireturn, 1) := by decide +kernel
theorem dX12_frameOf_62 : decode cX12_frameOf 62 = .ok (.bipush 6, 2) := by decide +kernel
theorem dX12_frameOf_64 : decode cX12_frameOf 64 = .ok (.ireturn, 1) := by decide +kernel
theorem dX12_frameOf_65 : decode cX12_frameOf 65 = .ok (.bipush 7, 2) := by decide +kernel
theorem dX12_frameOf_67 : decode cX12_frameOf 67 = .ok (.ireturn, 1) := by decide +kernel
theorem dX12_frameOf_68 : decode cX12_frameOf 68 = .ok (.bipush 8, 2) := by decide +kernel
theorem dX12_frameOf_70 : decode cX12_frameOf 70 = .ok (.ireturn, 1) := by decide +kernel
theorem dX12_frameOf_71 : decode cX12_frameOf 71 = .ok (.bipush 9, 2) := by decide +kernel
theorem dX12_frameOf_73 : decode cX12_frameOf 73 = .ok (.ireturn, 1) := by decide +kernel
theorem dX12_frameOf_74 : decode cX12_frameOf 74 = .ok (.bipush 10, 2) := by decide +kernel
theorem dX12_frameOf_76 : decode cX12_frameOf 76 = .ok (.ireturn, 1) := by decide +kernel
theorem dX12_frameOf_77 : decode cX12_frameOf 77 = .ok (.bipush 11, 2) := by decide +kernel
theorem dX12_frameOf_79 : decode cX12_frameOf 79 = .ok (.ireturn, 1) := by decide +kernel
theorem dX12_frameOf_80 : decode cX12_frameOf 80 = .ok (.bipush 12, 2) := by decide +kernel
theorem dX12_frameOf_82 : decode cX12_frameOf 82 = .ok (.ireturn, 1) := by decide +kernel
theorem dX12_frameOf_83 : decode cX12_frameOf 83 = .ok (.iconst 1, 1) := by decide +kernel
theorem dX12_frameOf_84 : decode cX12_frameOf 84 = .ok (.ireturn, 1) := by decide +kernel
theorem dX12_opens_0 : decode cX12_opens 0 = .ok (.aload_n 0, 1) := by decide +kernel
theorem dX12_opens_1 : decode cX12_opens 1 = .ok (.getfield 14, 3) := by decide +kernel
theorem dX12_opens_4 : decode cX12_opens 4 = .ok (.bipush 17, 2) := by decide +kernel
theorem dX12_opens_6 : decode cX12_opens 6 = .ok (.iaload, 1) := by decide +kernel
theorem dX12_opens_7 : decode cX12_opens 7 = .ok (.istore_n 1, 1) := by decide +kernel
theorem dX12_opens_8 : decode cX12_opens 8 = .ok (.aload_n 0, 1) := by decide +kernel
theorem dX12_opens_9 : decode cX12_opens 9 = .ok (.iload_n 1, 1) := by decide +kernel
theorem dX12_opens_10 : decode cX12_opens 10 = .ok (.invokevirtual 134, 3) := by decide +kernel
theorem dX12_opens_13 : decode cX12_opens 13 = .ok (.ifCond .ne 14, 3) := by decide +kernel
theorem dX12_opens_16 : decode cX12_opens 16 = .ok (.aload_n 0, 1) := by decide +kernel
theorem dX12_opens_17 : decode cX12_opens 17 = .ok (.aload_n 0, 1) := by decide +kernel
theorem dX12_opens_18 : decode cX12_opens 18 = .ok (.iload_n 1, 1) := by decide +kernel
theorem dX12_opens_19 : decode cX12_opens 19 = .ok (.invokevirtual 137, 3) := by decide +kernel
theorem dX12_opens_22 : decode cX12_opens 22 = .ok (.invokevirtual 219, 3) := by decide +kernel
theorem dX12_opens_25 : decode cX12_opens 25 = .ok (.iconst 1, 1) := by decide +kernel
theorem dX12_opens_26 : decode cX12_opens 26 = .ok (.ireturn, 1) := by decide +kernel
theorem dX12_opens_27 : decode cX12_opens 27 = .ok (.aload_n 0, 1) := by decide +kernel
theorem dX12_opens_28 : decode cX12_opens 28 = .ok (.iload_n 1, 1) := by decide +kernel
theorem dX12_opens_29 : decode cX12_opens 29 = .ok (.invokevirtual 134, 3) := by decide +kernel
theorem dX12_opens_32 : decode cX12_opens 32 = .ok (.iconst 1, 1) := by decide +kernel
theorem dX12_opens_33 : decode cX12_opens 33 = .ok (.if_icmp .ne 18, 3) := by decide +kernel
theorem dX12_opens_36 : decode cX12_opens 36 = .ok (.aload_n 0, 1) := by decide +kernel
theorem dX12_opens_37 : decode cX12_opens 37 = .ok (.aload_n 0, 1) := by decide +kernel
theorem dX12_opens_38 : decode cX12_opens 38 = .ok (.aload_n 0, 1) := by decide +kernel
theorem dX12_opens_39 : decode cX12_opens 39 = .ok (.iload_n 1, 1) := by decide +kernel
theorem dX12_opens_40 : decode cX12_opens 40 = .ok (.invokevirtual 137, 3) := by decide +kernel
theorem dX12_opens_43 : decode cX12_opens 43 = .ok (.invokevirtual 222, 3) := by decide +kernel
theorem dX12_opens_46 : decode cX12_opens 46 = .ok (.invokevirtual 219, 3) := by decide +kernel
theorem dX12_opens_49 : decode cX12_opens 49 = .ok (.iconst 1, 1) := by decide +kernel
theorem dX12_opens_50 : decode cX12_opens 50 = .ok (.ireturn, 1) := by decide +kernel
theorem dX12_opens_51 : decode cX12_opens 51 = .ok (.aload_n 0, 1) := by decide +kernel
theorem dX12_opens_52 : decode cX12_opens 52 = .ok (.invokevirtual 216, 3) := by decide +kernel
theorem dX12_opens_55 : decode cX12_opens 55 = .ok (.bipush 100, 2) := by decide +kernel
theorem dX12_opens_57 : decode cX12_opens 57 = .ok (.if_icmp .ne 5, 3) := by decide +kernel
theorem dX12_opens_60 : decode cX12_opens 60 = .ok (.iconst 0, 1) := by decide +kernel
theorem dX12_opens_61 : decode cX12_opens 61 = .ok (.ireturn, 1) := by decide +kernel
theorem dX12_opens_62 : decode cX12_opens 62 = .ok (.aload_n 0, 1) := by decide +kernel
theorem dX12_opens_63 : decode cX12_opens 63 = .ok (.iload_n 1, 1) := by decide +kernel
theorem dX12_opens_64 : decode cX12_opens 64 = .ok (.invokevirtual 134, 3) := by decide +kernel
theorem dX12_opens_67 : decode cX12_opens 67 = .ok (.bipush 14, 2) := by decide +kernel
theorem dX12_opens_69 : decode cX12_opens 69 = .ok (.if_icmp .ne 13, 3) := by decide +kernel
theorem dX12_opens_72 : decode cX12_opens 72 = .ok (.aload_n 0, 1) := by decide +kernel
theorem dX12_opens_73 : decode cX12_opens 73 = .ok (.getfield 14, 3) := by decide +kernel
theorem dX12_opens_76 : decode cX12_opens 76 = .ok (.bipush 19, 2) := by decide +kernel
theorem dX12_opens_78 : decode cX12_opens 78 = .ok (.iaload, 1) := by decide +kernel
theorem dX12_opens_79 : decode cX12_opens 79 = .ok (.goto 4, 3) := by decide +kernel
theorem dX12_opens_82 : decode cX12_opens 82 = .ok (.iconst 0, 1) := by decide +kernel
theorem dX12_opens_83 : decode cX12_opens 83 = .ok (.istore_n 2, 1) := by decide +kernel
theorem dX12_opens_84 : decode cX12_opens 84 = .ok (.aload_n 0, 1) := by decide +kernel
theorem dX12_opens_85 : decode cX12_opens 85 = .ok (.iload_n 1, 1) := by decide +kernel
theorem dX12_opens_86 : decode cX12_opens 86 = .ok (.invokevirtual 134, 3) := by decide +kernel
theorem dX12_opens_89 : decode cX12_opens 89 = .ok (.bipush 12, 2) := by decide +kernel
theorem dX12_opens_91 : decode cX12_opens 91 = .ok (.if_icmp .ne 33, 3) := by decide +kernel
theorem dX12_opens_94 : decode cX12_opens 94 = .ok (.aload_n 0, 1) := by decide +kernel
theorem dX12_opens_95 : decode cX12_opens 95 = .ok (.getfield 14, 3) := by decide +kernel
theorem dX12_opens_98 : decode cX12_opens 98 = .ok (.bipush 23, 2) := by decide +kernel
theorem dX12_opens_100 : decode cX12_opens 100 = .ok (.iaload, 1) := by decide +kernel
theorem dX12_opens_101 : decode cX12_opens 101 = .ok (.istore_n 2, 1) := by decide +kernel
theorem dX12_opens_102 : decode cX12_opens 102 = .ok (.aload_n 0, 1) := by decide +kernel
theorem dX12_opens_103 : decode cX12_opens 103 = .ok (.getfield 14, 3) := by decide +kernel
theorem dX12_opens_106 : decode cX12_opens 106 = .ok (.sipush 7230, 3) := by decide +kernel
theorem dX12_opens_109 : decode cX12_opens 109 = .ok (.iload_n 2, 1) := by decide +kernel
theorem dX12_opens_110 : decode cX12_opens 110 = .ok (.iadd, 1) := by decide +kernel
theorem dX12_opens_111 : decode cX12_opens 111 = .ok (.iconst 0, 1) := by decide +kernel
theorem dX12_opens_112 : decode cX12_opens 112 = .ok (.iastore, 1) := by decide +kernel
theorem dX12_opens_113 : decode cX12_opens 113 = .ok (.aload_n 0, 1) := by decide +kernel
theorem dX12_opens_114 : decode cX12_opens 114 = .ok (.getfield 14, 3) := by decide +kernel
theorem dX12_opens_117 : decode cX12_opens 117 = .ok (.bipush 23, 2) := by decide +kernel
theorem dX12_opens_119 : decode cX12_opens 119 = .ok (.dup2, 1) := by decide +kernel
theorem dX12_opens_120 : decode cX12_opens 120 = .ok (.iaload, 1) := by decide +kernel
theorem dX12_opens_121 : decode cX12_opens 121 = .ok (.iconst 1, 1) := by decide +kernel
theorem dX12_opens_122 : decode cX12_opens 122 = .ok (.iadd, 1) := by decide +kernel
theorem dX12_opens_123 : decode cX12_opens 123 = .ok (.iastore, 1) := by decide +kernel
theorem dX12_opens_124 : decode cX12_opens 124 = .ok (.aload_n 0, 1) := by decide +kernel
theorem dX12_opens_125 : decode cX12_opens 125 = .ok (.aload_n 0, 1) := by decide +kernel
theorem dX12_opens_126 : decode cX12_opens 126 = .ok (.iload_n 1, 1) := by decide +kernel
theorem dX12_opens_127 : decode cX12_opens 127 = .ok (.invokevirtual 134, 3) := by decide +kernel
theorem dX12_opens_130 : decode cX12_opens 130 = .ok (.invokestatic 225, 3) := by decide +kernel
theorem dX12_opens_133 : decode cX12_opens 133 = .ok (.iload_n 1, 1) := by decide +kernel
theorem dX12_opens_134 : decode cX12_opens 134 = .ok (.aload_n 0, 1) := by decide +kernel
theorem dX12_opens_135 : decode cX12_opens 135 = .ok (.getfield 14, 3) := by decide +kernel
theorem dX12_opens_138 : decode cX12_opens 138 = .ok (.bipush 18, 2) := by decide +kernel
theorem dX12_opens_140 : decode cX12_opens 140 = .ok (.iaload, 1) := by decide +kernel
theorem dX12_opens_141 : decode cX12_opens 141 = .ok (.aload_n 0, 1) := by decide +kernel
theorem dX12_opens_142 : decode cX12_opens 142 = .ok (.getfield 14, 3) := by decide +kernel
theorem dX12_opens_145 : decode cX12_opens 145 = .ok (.bipush 19, 2) := by decide +kernel
theorem dX12_opens_147 : decode cX12_opens 147 = .ok (.iaload, 1) := by decide +kernel
theorem dX12_opens_148 : decode cX12_opens 148 = .ok (.iload_n 2, 1) := by decide +kernel
theorem dX12_opens_149 : decode cX12_opens 149 = .ok (.invokevirtual 228, 3) := by decide +kernel
theorem dX12_opens_152 : decode cX12_opens 152 = .ok (.aload_n 0, 1) := by decide +kernel
theorem dX12_opens_153 : decode cX12_opens 153 = .ok (.getfield 14, 3) := by decide +kernel
theorem dX12_opens_156 : decode cX12_opens 156 = .ok (.bipush 17, 2) := by decide +kernel
theorem dX12_opens_158 : decode cX12_opens 158 = .ok (.aload_n 0, 1) := by decide +kernel
theorem dX12_opens_159 : decode cX12_opens 159 = .ok (.iload_n 1, 1) := by decide +kernel
theorem dX12_opens_160 : decode cX12_opens 160 = .ok (.iconst 1, 1) := by decide +kernel
theorem dX12_opens_161 : decode cX12_opens 161 = .ok (.invokevirtual 165, 3) := by decide +kernel
theorem dX12_opens_164 : decode cX12_opens 164 = .ok (.iastore, 1) := by decide +kernel
theorem dX12_opens_165 : decode cX12_opens 165 = .ok (.iconst 1, 1) := by decide +kernel
theorem dX12_opens_166 : decode cX12_opens 166 = .ok (.ireturn, 1) := by decide +kernel
theorem dX12_result_0 : decode cX12_result 0 = .ok (.iload_n 0, 1) := by decide +kernel
theorem dX12_result_1 : decode cX12_result 1 = .ok (.iconst 2, 1) := by decide +kernel
theorem dX12_result_2 : decode cX12_result 2 = .ok (.if_icmp .ne 9, 3) := by decide +kernel
theorem dX12_result_5 : decode cX12_result 5 = .ok (.iload_n 1, 1) := by decide +kernel
theorem dX12_result_6 : decode cX12_result 6 = .ok (.iload_n 2, 1) := by decide +kernel
theorem dX12_result_7 : decode cX12_result 7 = .ok (.iadd, 1) := by decide +kernel
theorem dX12_result_8 : decode cX12_result 8 = .ok (.goto 35, 3) := by decide +kernel
theorem dX12_result_11 : decode cX12_result 11 = .ok (.iload_n 0, 1) := by decide +kernel
theorem dX12_result_12 : decode cX12_result 12 = .ok (.iconst 3, 1) := by decide +kernel
theorem dX12_result_13 : decode cX12_result 13 = .ok (.if_icmp .ne 9, 3) := by decide +kernel
theorem dX12_result_16 : decode cX12_result 16 = .ok (.iload_n 1, 1) := by decide +kernel
theorem dX12_result_17 : decode cX12_result 17 = .ok (.iload_n 2, 1) := by decide +kernel
theorem dX12_result_18 : decode cX12_result 18 = .ok (.isub, 1) := by decide +kernel
theorem dX12_result_19 : decode cX12_result 19 = .ok (.goto 24, 3) := by decide +kernel
theorem dX12_result_22 : decode cX12_result 22 = .ok (.iload_n 0, 1) := by decide +kernel
theorem dX12_result_23 : decode cX12_result 23 = .ok (.iconst 4, 1) := by decide +kernel
theorem dX12_result_24 : decode cX12_result 24 = .ok (.if_icmp .ne 9, 3) := by decide +kernel
theorem dX12_result_27 : decode cX12_result 27 = .ok (.iload_n 1, 1) := by decide +kernel
theorem dX12_result_28 : decode cX12_result 28 = .ok (.iload_n 2, 1) := by decide +kernel
theorem dX12_result_29 : decode cX12_result 29 = .ok (.imul, 1) := by decide +kernel
theorem dX12_result_30 : decode cX12_result 30 = .ok (.goto 13, 3) := by decide +kernel
theorem dX12_result_33 : decode cX12_result 33 = .ok (.iload_n 1, 1) := by decide +kernel
theorem dX12_result_34 : decode cX12_result 34 = .ok (.iload_n 2, 1) := by decide +kernel
theorem dX12_result_35 : decode cX12_result 35 = .ok (.if_icmp .ge 7, 3) := by decide +kernel
theorem dX12_result_38 : decode cX12_result 38 = .ok (.iconst 1, 1) := by decide +kernel
theorem dX12_result_39 : decode cX12_result 39 = .ok (.goto 4, 3) := by decide +kernel
theorem dX12_result_42 : decode cX12_result 42 = .ok (.iconst 0, 1) := by decide +kernel
theorem dX12_result_43 : decode cX12_result 43 = .ok (.ireturn, 1) := by decide +kernel
theorem dX12_trace0_0 : decode cX12_trace0 0 = .ok (.aload_n 0, 1) := by decide +kernel
theorem dX12_trace0_1 : decode cX12_trace0 1 = .ok (.getfield 14, 3) := by decide +kernel
theorem dX12_trace0_4 : decode cX12_trace0 4 = .ok (.bipush 9, 2) := by decide +kernel
theorem dX12_trace0_6 : decode cX12_trace0 6 = .ok (.iaload, 1) := by decide +kernel
theorem dX12_trace0_7 : decode cX12_trace0 7 = .ok (.bipush 60, 2) := by decide +kernel
theorem dX12_trace0_9 : decode cX12_trace0 9 = .ok (.if_icmp .ge 31, 3) := by decide +kernel
theorem dX12_trace0_12 : decode cX12_trace0 12 = .ok (.aload_n 0, 1) := by decide +kernel
theorem dX12_trace0_13 : decode cX12_trace0 13 = .ok (.getfield 14, 3) := by decide +kernel
theorem dX12_trace0_16 : decode cX12_trace0 16 = .ok (.sipush 8430, 3) := by decide +kernel
theorem dX12_trace0_19 : decode cX12_trace0 19 = .ok (.aload_n 0, 1) := by decide +kernel
theorem dX12_trace0_20 : decode cX12_trace0 20 = .ok (.getfield 14, 3) := by decide +kernel
theorem dX12_trace0_23 : decode cX12_trace0 23 = .ok (.bipush 9, 2) := by decide +kernel
theorem dX12_trace0_25 : decode cX12_trace0 25 = .ok (.iaload, 1) := by decide +kernel
theorem dX12_trace0_26 : decode cX12_trace0 26 = .ok (.iadd, 1) := by decide +kernel
theorem dX12_trace0_27 : decode cX12_trace0 27 = .ok (.iload_n 1, 1) := by decide +kernel
theorem dX12_trace0_28 : decode cX12_trace0 28 = .ok (.iastore, 1) := by decide +kernel
theorem dX12_trace0_29 : decode cX12_trace0 29 = .ok (.aload_n 0, 1) := by decide +kernel
theorem dX12_trace0_30 : decode cX12_trace0 30 = .ok (.getfield 14, 3) := by decide +kernel
theorem dX12_trace0_33 : decode cX12_trace0 33 = .ok (.bipush 9, 2) := by decide +kernel
theorem dX12_trace0_35 : decode cX12_trace0 35 = .ok (.dup2, 1) := by decide +kernel
theorem dX12_trace0_36 : decode cX12_trace0 36 = .ok (.iaload, 1) := by decide +kernel
theorem dX12_trace0_37 : decode cX12_trace0 37 = .ok (.iconst 1, 1) := by decide +kernel
theorem dX12_trace0_38 : decode cX12_trace0 38 = .ok (.iadd, 1) := by decide +kernel
theorem dX12_trace0_39 : decode cX12_trace0 39 = .ok (.iastore, 1) := by decide +kernel
theorem dX12_trace0_40 : decode cX12_trace0 40 = .ok (.return_, 1) := by decide +kernel
theorem dX12_makeResumption_0 : decode cX12_makeResumption 0 = .ok (.aload_n 0, 1) := by decide +kernel
theorem dX12_makeResumption_1 : decode cX12_makeResumption 1 = .ok (.getfield 14, 3) := by decide +kernel
theorem dX12_makeResumption_4 : decode cX12_makeResumption 4 = .ok (.bipush 11, 2) := by decide +kernel
theorem dX12_makeResumption_6 : decode cX12_makeResumption 6 = .ok (.iaload, 1) := by decide +kernel
theorem dX12_makeResumption_7 : decode cX12_makeResumption 7 = .ok (.istore_n 3, 1) := by decide +kernel
theorem dX12_makeResumption_8 : decode cX12_makeResumption 8 = .ok (.aload_n 0, 1) := by decide +kernel
theorem dX12_makeResumption_9 : decode cX12_makeResumption 9 = .ok (.getfield 14, 3) := by decide +kernel
theorem dX12_makeResumption_12 : decode cX12_makeResumption 12 = .ok (.bipush 11, 2) := by decide +kernel
theorem dX12_makeResumption_14 : decode cX12_makeResumption 14 = .ok (.dup2, 1) := by decide +kernel
theorem dX12_makeResumption_15 : decode cX12_makeResumption 15 = .ok (.iaload, 1) := by decide +kernel
theorem dX12_makeResumption_16 : decode cX12_makeResumption 16 = .ok (.iconst 1, 1) := by decide +kernel
theorem dX12_makeResumption_17 : decode cX12_makeResumption 17 = .ok (.iadd, 1) := by decide +kernel
theorem dX12_makeResumption_18 : decode cX12_makeResumption 18 = .ok (.iastore, 1) := by decide +kernel
theorem dX12_makeResumption_19 : decode cX12_makeResumption 19 = .ok (.aload_n 0, 1) := by decide +kernel
theorem dX12_makeResumption_20 : decode cX12_makeResumption 20 = .ok (.getfield 14, 3) := by decide +kernel
theorem dX12_makeResumption_23 : decode cX12_makeResumption 23 = .ok (.sipush 3630, 3) := by decide +kernel
theorem dX12_makeResumption_26 : decode cX12_makeResumption 26 = .ok (.iconst 3, 1) := by decide +kernel
theorem dX12_makeResumption_27 : decode cX12_makeResumption 27 = .ok (.iload_n 3, 1) := by decide +kernel
theorem dX12_makeResumption_28 : decode cX12_makeResumption 28 = .ok (.imul, 1) := by decide +kernel
theorem dX12_makeResumption_29 : decode cX12_makeResumption 29 = .ok (.iadd, 1) := by decide +kernel
theorem dX12_makeResumption_30 : decode cX12_makeResumption 30 = .ok (.iload_n 1, 1) := by decide +kernel
theorem dX12_makeResumption_31 : decode cX12_makeResumption 31 = .ok (.iastore, 1) := by decide +kernel
theorem dX12_makeResumption_32 : decode cX12_makeResumption 32 = .ok (.aload_n 0, 1) := by decide +kernel
theorem dX12_makeResumption_33 : decode cX12_makeResumption 33 = .ok (.getfield 14, 3) := by decide +kernel
theorem dX12_makeResumption_36 : decode cX12_makeResumption 36 = .ok (.sipush 3630, 3) := by decide +kernel
theorem dX12_makeResumption_39 : decode cX12_makeResumption 39 = .ok (.iconst 3, 1) := by decide +kernel
theorem dX12_makeResumption_40 : decode cX12_makeResumption 40 = .ok (.iload_n 3, 1) := by decide +kernel
theorem dX12_makeResumption_41 : decode cX12_makeResumption 41 = .ok (.imul, 1) := by decide +kernel
theorem dX12_makeResumption_42 : decode cX12_makeResumption 42 = .ok (.iadd, 1) := by decide +kernel
theorem dX12_makeResumption_43 : decode cX12_makeResumption 43 = .ok (.iconst 1, 1) := by decide +kernel
theorem dX12_makeResumption_44 : decode cX12_makeResumption 44 = .ok (.iadd, 1) := by decide +kernel
theorem dX12_makeResumption_45 : decode cX12_makeResumption 45 = .ok (.iload_n 2, 1) := by decide +kernel
theorem dX12_makeResumption_46 : decode cX12_makeResumption 46 = .ok (.iastore, 1) := by decide +kernel
theorem dX12_makeResumption_47 : decode cX12_makeResumption 47 = .ok (.aload_n 0, 1) := by decide +kernel
theorem dX12_makeResumption_48 : decode cX12_makeResumption 48 = .ok (.getfield 14, 3) := by decide +kernel
theorem dX12_makeResumption_51 : decode cX12_makeResumption 51 = .ok (.sipush 3630, 3) := by decide +kernel
theorem dX12_makeResumption_54 : decode cX12_makeResumption 54 = .ok (.iconst 3, 1) := by decide +kernel
theorem dX12_makeResumption_55 : decode cX12_makeResumption 55 = .ok (.iload_n 3, 1) := by decide +kernel
theorem dX12_makeResumption_56 : decode cX12_makeResumption 56 = .ok (.imul, 1) := by decide +kernel
theorem dX12_makeResumption_57 : decode cX12_makeResumption 57 = .ok (.iadd, 1) := by decide +kernel
theorem dX12_makeResumption_58 : decode cX12_makeResumption 58 = .ok (.iconst 2, 1) := by decide +kernel
theorem dX12_makeResumption_59 : decode cX12_makeResumption 59 = .ok (.iadd, 1) := by decide +kernel
theorem dX12_makeResumption_60 : decode cX12_makeResumption 60 = .ok (.iconst 0, 1) := by decide +kernel
theorem dX12_makeResumption_61 : decode cX12_makeResumption 61 = .ok (.iastore, 1) := by decide +kernel
theorem dX12_makeResumption_62 : decode cX12_makeResumption 62 = .ok (.iload_n 3, 1) := by decide +kernel
theorem dX12_makeResumption_63 : decode cX12_makeResumption 63 = .ok (.ireturn, 1) := by decide +kernel
theorem dX12_uses_0 : decode cX12_uses 0 = .ok (.aload_n 0, 1) := by decide +kernel
theorem dX12_uses_1 : decode cX12_uses 1 = .ok (.getfield 14, 3) := by decide +kernel
theorem dX12_uses_4 : decode cX12_uses 4 = .ok (.sipush 3630, 3) := by decide +kernel
theorem dX12_uses_7 : decode cX12_uses 7 = .ok (.iconst 3, 1) := by decide +kernel
theorem dX12_uses_8 : decode cX12_uses 8 = .ok (.iload_n 1, 1) := by decide +kernel
theorem dX12_uses_9 : decode cX12_uses 9 = .ok (.imul, 1) := by decide +kernel
theorem dX12_uses_10 : decode cX12_uses 10 = .ok (.iadd, 1) := by decide +kernel
theorem dX12_uses_11 : decode cX12_uses 11 = .ok (.iconst 2, 1) := by decide +kernel
theorem dX12_uses_12 : decode cX12_uses 12 = .ok (.iadd, 1) := by decide +kernel
theorem dX12_uses_13 : decode cX12_uses 13 = .ok (.iaload, 1) := by decide +kernel
theorem dX12_uses_14 : decode cX12_uses 14 = .ok (.ireturn, 1) := by decide +kernel
theorem dX12_resumes_0 : decode cX12_resumes 0 = .ok (.aload_n 0, 1) := by decide +kernel
theorem dX12_resumes_1 : decode cX12_resumes 1 = .ok (.getfield 14, 3) := by decide +kernel
theorem dX12_resumes_4 : decode cX12_resumes 4 = .ok (.sipush 3630, 3) := by decide +kernel
theorem dX12_resumes_7 : decode cX12_resumes 7 = .ok (.iconst 3, 1) := by decide +kernel
theorem dX12_resumes_8 : decode cX12_resumes 8 = .ok (.iload_n 1, 1) := by decide +kernel
theorem dX12_resumes_9 : decode cX12_resumes 9 = .ok (.imul, 1) := by decide +kernel
theorem dX12_resumes_10 : decode cX12_resumes 10 = .ok (.iadd, 1) := by decide +kernel
theorem dX12_resumes_11 : decode cX12_resumes 11 = .ok (.iconst 1, 1) := by decide +kernel
theorem dX12_resumes_12 : decode cX12_resumes 12 = .ok (.iadd, 1) := by decide +kernel
theorem dX12_resumes_13 : decode cX12_resumes 13 = .ok (.iaload, 1) := by decide +kernel
theorem dX12_resumes_14 : decode cX12_resumes 14 = .ok (.istore_n 3, 1) := by decide +kernel
theorem dX12_resumes_15 : decode cX12_resumes 15 = .ok (.aload_n 0, 1) := by decide +kernel
theorem dX12_resumes_16 : decode cX12_resumes 16 = .ok (.invokevirtual 216, 3) := by decide +kernel
theorem dX12_resumes_19 : decode cX12_resumes 19 = .ok (.iload_n 3, 1) := by decide +kernel
theorem dX12_resumes_20 : decode cX12_resumes 20 = .ok (.iadd, 1) := by decide +kernel
theorem dX12_resumes_21 : decode cX12_resumes 21 = .ok (.bipush 100, 2) := by decide +kernel
theorem dX12_resumes_23 : decode cX12_resumes 23 = .ok (.if_icmp .le 5, 3) := by decide +kernel
theorem dX12_resumes_26 : decode cX12_resumes 26 = .ok (.iconst 0, 1) := by decide +kernel
theorem dX12_resumes_27 : decode cX12_resumes 27 = .ok (.ireturn, 1) := by decide +kernel
theorem dX12_resumes_28 : decode cX12_resumes 28 = .ok (.aload_n 0, 1) := by decide +kernel
theorem dX12_resumes_29 : decode cX12_resumes 29 = .ok (.getfield 14, 3) := by decide +kernel
theorem dX12_resumes_32 : decode cX12_resumes 32 = .ok (.sipush 3630, 3) := by decide +kernel
theorem dX12_resumes_35 : decode cX12_resumes 35 = .ok (.iconst 3, 1) := by decide +kernel
theorem dX12_resumes_36 : decode cX12_resumes 36 = .ok (.iload_n 1, 1) := by decide +kernel
theorem dX12_resumes_37 : decode cX12_resumes 37 = .ok (.imul, 1) := by decide +kernel
theorem dX12_resumes_38 : decode cX12_resumes 38 = .ok (.iadd, 1) := by decide +kernel
theorem dX12_resumes_39 : decode cX12_resumes 39 = .ok (.iaload, 1) := by decide +kernel
theorem dX12_resumes_40 : decode cX12_resumes 40 = .ok (.istore 4, 2) := by decide +kernel
theorem dX12_resumes_42 : decode cX12_resumes 42 = .ok (.iconst 0, 1) := by decide +kernel
theorem dX12_resumes_43 : decode cX12_resumes 43 = .ok (.istore 5, 2) := by decide +kernel
theorem dX12_resumes_45 : decode cX12_resumes 45 = .ok (.iload 5, 2) := by decide +kernel
theorem dX12_resumes_47 : decode cX12_resumes 47 = .ok (.iload_n 3, 1) := by decide +kernel
theorem dX12_resumes_48 : decode cX12_resumes 48 = .ok (.if_icmp .ge 27, 3) := by decide +kernel
theorem dX12_resumes_51 : decode cX12_resumes 51 = .ok (.aload_n 0, 1) := by decide +kernel
theorem dX12_resumes_52 : decode cX12_resumes 52 = .ok (.getfield 59, 3) := by decide +kernel
theorem dX12_resumes_55 : decode cX12_resumes 55 = .ok (.iload 5, 2) := by decide +kernel
theorem dX12_resumes_57 : decode cX12_resumes 57 = .ok (.iload 4, 2) := by decide +kernel
theorem dX12_resumes_59 : decode cX12_resumes 59 = .ok (.iastore, 1) := by decide +kernel
theorem dX12_resumes_60 : decode cX12_resumes 60 = .ok (.aload_n 0, 1) := by decide +kernel
theorem dX12_resumes_61 : decode cX12_resumes 61 = .ok (.iload 4, 2) := by decide +kernel
theorem dX12_resumes_63 : decode cX12_resumes 63 = .ok (.iconst 5, 1) := by decide +kernel
theorem dX12_resumes_64 : decode cX12_resumes 64 = .ok (.invokevirtual 213, 3) := by decide +kernel
theorem dX12_resumes_67 : decode cX12_resumes 67 = .ok (.istore 4, 2) := by decide +kernel
theorem dX12_resumes_69 : decode cX12_resumes 69 = .ok (.iinc 5 1, 3) := by decide +kernel
theorem dX12_resumes_72 : decode cX12_resumes 72 = .ok (.goto (-27), 3) := by decide +kernel
theorem dX12_resumes_75 : decode cX12_resumes 75 = .ok (.iload_n 3, 1) := by decide +kernel
theorem dX12_resumes_76 : decode cX12_resumes 76 = .ok (.iconst 1, 1) := by decide +kernel
theorem dX12_resumes_77 : decode cX12_resumes 77 = .ok (.isub, 1) := by decide +kernel
theorem dX12_resumes_78 : decode cX12_resumes 78 = .ok (.istore 5, 2) := by decide +kernel
theorem dX12_resumes_80 : decode cX12_resumes 80 = .ok (.iload 5, 2) := by decide +kernel
theorem dX12_resumes_82 : decode cX12_resumes 82 = .ok (.ifCond .lt 73, 3) := by decide +kernel
theorem dX12_resumes_85 : decode cX12_resumes 85 = .ok (.aload_n 0, 1) := by decide +kernel
theorem dX12_resumes_86 : decode cX12_resumes 86 = .ok (.aload_n 0, 1) := by decide +kernel
theorem dX12_resumes_87 : decode cX12_resumes 87 = .ok (.aload_n 0, 1) := by decide +kernel
theorem dX12_resumes_88 : decode cX12_resumes 88 = .ok (.getfield 59, 3) := by decide +kernel
theorem dX12_resumes_91 : decode cX12_resumes 91 = .ok (.iload 5, 2) := by decide +kernel
theorem dX12_resumes_93 : decode cX12_resumes 93 = .ok (.iaload, 1) := by decide +kernel
theorem dX12_resumes_94 : decode cX12_resumes 94 = .ok (.iconst 0, 1) := by decide +kernel
theorem dX12_resumes_95 : decode cX12_resumes 95 = .ok (.invokevirtual 213, 3) := by decide +kernel
theorem dX12_resumes_98 : decode cX12_resumes 98 = .ok (.aload_n 0, 1) := by decide +kernel
theorem dX12_resumes_99 : decode cX12_resumes 99 = .ok (.aload_n 0, 1) := by decide +kernel
theorem dX12_resumes_100 : decode cX12_resumes 100 = .ok (.getfield 59, 3) := by decide +kernel
theorem dX12_resumes_103 : decode cX12_resumes 103 = .ok (.iload 5, 2) := by decide +kernel
theorem dX12_resumes_105 : decode cX12_resumes 105 = .ok (.iaload, 1) := by decide +kernel
theorem dX12_resumes_106 : decode cX12_resumes 106 = .ok (.iconst 1, 1) := by decide +kernel
theorem dX12_resumes_107 : decode cX12_resumes 107 = .ok (.invokevirtual 213, 3) := by decide +kernel
theorem dX12_resumes_110 : decode cX12_resumes 110 = .ok (.aload_n 0, 1) := by decide +kernel
theorem dX12_resumes_111 : decode cX12_resumes 111 = .ok (.aload_n 0, 1) := by decide +kernel
theorem dX12_resumes_112 : decode cX12_resumes 112 = .ok (.getfield 59, 3) := by decide +kernel
theorem dX12_resumes_115 : decode cX12_resumes 115 = .ok (.iload 5, 2) := by decide +kernel
theorem dX12_resumes_117 : decode cX12_resumes 117 = .ok (.iaload, 1) := by decide +kernel
theorem dX12_resumes_118 : decode cX12_resumes 118 = .ok (.iconst 2, 1) := by decide +kernel
theorem dX12_resumes_119 : decode cX12_resumes 119 = .ok (.invokevirtual 213, 3) := by decide +kernel
theorem dX12_resumes_122 : decode cX12_resumes 122 = .ok (.aload_n 0, 1) := by decide +kernel
theorem dX12_resumes_123 : decode cX12_resumes 123 = .ok (.aload_n 0, 1) := by decide +kernel
theorem dX12_resumes_124 : decode cX12_resumes 124 = .ok (.getfield 59, 3) := by decide +kernel
theorem dX12_resumes_127 : decode cX12_resumes 127 = .ok (.iload 5, 2) := by decide +kernel
theorem dX12_resumes_129 : decode cX12_resumes 129 = .ok (.iaload, 1) := by decide +kernel
theorem dX12_resumes_130 : decode cX12_resumes 130 = .ok (.iconst 3, 1) := by decide +kernel
theorem dX12_resumes_131 : decode cX12_resumes 131 = .ok (.invokevirtual 213, 3) := by decide +kernel
theorem dX12_resumes_134 : decode cX12_resumes 134 = .ok (.aload_n 0, 1) := by decide +kernel
theorem dX12_resumes_135 : decode cX12_resumes 135 = .ok (.aload_n 0, 1) := by decide +kernel
theorem dX12_resumes_136 : decode cX12_resumes 136 = .ok (.getfield 59, 3) := by decide +kernel
theorem dX12_resumes_139 : decode cX12_resumes 139 = .ok (.iload 5, 2) := by decide +kernel
theorem dX12_resumes_141 : decode cX12_resumes 141 = .ok (.iaload, 1) := by decide +kernel
theorem dX12_resumes_142 : decode cX12_resumes 142 = .ok (.iconst 4, 1) := by decide +kernel
theorem dX12_resumes_143 : decode cX12_resumes 143 = .ok (.invokevirtual 213, 3) := by decide +kernel
theorem dX12_resumes_146 : decode cX12_resumes 146 = .ok (.invokevirtual 228, 3) := by decide +kernel
theorem dX12_resumes_149 : decode cX12_resumes 149 = .ok (.iinc 5 (-1), 3) := by decide +kernel
theorem dX12_resumes_152 : decode cX12_resumes 152 = .ok (.goto (-72), 3) := by decide +kernel
theorem dX12_resumes_155 : decode cX12_resumes 155 = .ok (.aload_n 0, 1) := by decide +kernel
theorem dX12_resumes_156 : decode cX12_resumes 156 = .ok (.getfield 14, 3) := by decide +kernel
theorem dX12_resumes_159 : decode cX12_resumes 159 = .ok (.sipush 3630, 3) := by decide +kernel
theorem dX12_resumes_162 : decode cX12_resumes 162 = .ok (.iconst 3, 1) := by decide +kernel
theorem dX12_resumes_163 : decode cX12_resumes 163 = .ok (.iload_n 1, 1) := by decide +kernel
theorem dX12_resumes_164 : decode cX12_resumes 164 = .ok (.imul, 1) := by decide +kernel
theorem dX12_resumes_165 : decode cX12_resumes 165 = .ok (.iadd, 1) := by decide +kernel
theorem dX12_resumes_166 : decode cX12_resumes 166 = .ok (.iconst 2, 1) := by decide +kernel
theorem dX12_resumes_167 : decode cX12_resumes 167 = .ok (.iadd, 1) := by decide +kernel
theorem dX12_resumes_168 : decode cX12_resumes 168 = .ok (.dup2, 1) := by decide +kernel
theorem dX12_resumes_169 : decode cX12_resumes 169 = .ok (.iaload, 1) := by decide +kernel
theorem dX12_resumes_170 : decode cX12_resumes 170 = .ok (.iconst 1, 1) := by decide +kernel
theorem dX12_resumes_171 : decode cX12_resumes 171 = .ok (.iadd, 1) := by decide +kernel
theorem dX12_resumes_172 : decode cX12_resumes 172 = .ok (.iastore, 1) := by decide +kernel
theorem dX12_resumes_173 : decode cX12_resumes 173 = .ok (.aload_n 0, 1) := by decide +kernel
theorem dX12_resumes_174 : decode cX12_resumes 174 = .ok (.getfield 14, 3) := by decide +kernel
theorem dX12_resumes_177 : decode cX12_resumes 177 = .ok (.bipush 12, 2) := by decide +kernel
theorem dX12_resumes_179 : decode cX12_resumes 179 = .ok (.dup2, 1) := by decide +kernel
theorem dX12_resumes_180 : decode cX12_resumes 180 = .ok (.iaload, 1) := by decide +kernel
theorem dX12_resumes_181 : decode cX12_resumes 181 = .ok (.iconst 1, 1) := by decide +kernel
theorem dX12_resumes_182 : decode cX12_resumes 182 = .ok (.iadd, 1) := by decide +kernel
theorem dX12_resumes_183 : decode cX12_resumes 183 = .ok (.iastore, 1) := by decide +kernel
theorem dX12_resumes_184 : decode cX12_resumes 184 = .ok (.aload_n 0, 1) := by decide +kernel
theorem dX12_resumes_185 : decode cX12_resumes 185 = .ok (.getfield 14, 3) := by decide +kernel
theorem dX12_resumes_188 : decode cX12_resumes 188 = .ok (.bipush 13, 2) := by decide +kernel
theorem dX12_resumes_190 : decode cX12_resumes 190 = .ok (.dup2, 1) := by decide +kernel
theorem dX12_resumes_191 : decode cX12_resumes 191 = .ok (.iaload, 1) := by decide +kernel
theorem dX12_resumes_192 : decode cX12_resumes 192 = .ok (.aload_n 0, 1) := by decide +kernel
theorem dX12_resumes_193 : decode cX12_resumes 193 = .ok (.iload_n 1, 1) := by decide +kernel
theorem dX12_resumes_194 : decode cX12_resumes 194 = .ok (.invokevirtual 232, 3) := by decide +kernel
theorem dX12_resumes_197 : decode cX12_resumes 197 = .ok (.iconst 2, 1) := by decide +kernel
theorem dX12_resumes_198 : decode cX12_resumes 198 = .ok (.if_icmp .ne 7, 3) := by decide +kernel
theorem dX12_resumes_201 : decode cX12_resumes 201 = .ok (.iconst 1, 1) := by decide +kernel
theorem dX12_resumes_202 : decode cX12_resumes 202 = .ok (.goto 4, 3) := by decide +kernel
theorem dX12_resumes_205 : decode cX12_resumes 205 = .ok (.iconst 0, 1) := by decide +kernel
theorem dX12_resumes_206 : decode cX12_resumes 206 = .ok (.iadd, 1) := by decide +kernel
theorem dX12_resumes_207 : decode cX12_resumes 207 = .ok (.iastore, 1) := by decide +kernel
theorem dX12_resumes_208 : decode cX12_resumes 208 = .ok (.aload_n 0, 1) := by decide +kernel
theorem dX12_resumes_209 : decode cX12_resumes 209 = .ok (.iload_n 2, 1) := by decide +kernel
theorem dX12_resumes_210 : decode cX12_resumes 210 = .ok (.invokevirtual 219, 3) := by decide +kernel
theorem dX12_resumes_213 : decode cX12_resumes 213 = .ok (.iconst 1, 1) := by decide +kernel
theorem dX12_resumes_214 : decode cX12_resumes 214 = .ok (.ireturn, 1) := by decide +kernel
theorem dX12_pending_0 : decode cX12_pending 0 = .ok (.iconst 1, 1) := by decide +kernel
theorem dX12_pending_1 : decode cX12_pending 1 = .ok (.istore_n 2, 1) := by decide +kernel
theorem dX12_pending_2 : decode cX12_pending 2 = .ok (.aload_n 0, 1) := by decide +kernel
theorem dX12_pending_3 : decode cX12_pending 3 = .ok (.dup, 1) := by decide +kernel
theorem dX12_pending_4 : decode cX12_pending 4 = .ok (.getfield 235, 3) := by decide +kernel
theorem dX12_pending_7 : decode cX12_pending 7 = .ok (.iconst 1, 1) := by decide +kernel
theorem dX12_pending_8 : decode cX12_pending 8 = .ok (.iadd, 1) := by decide +kernel
theorem dX12_pending_9 : decode cX12_pending 9 = .ok (.putfield 235, 3) := by decide +kernel
theorem dX12_pending_12 : decode cX12_pending 12 = .ok (.aload_n 0, 1) := by decide +kernel
theorem dX12_pending_13 : decode cX12_pending 13 = .ok (.getfield 68, 3) := by decide +kernel
theorem dX12_pending_16 : decode cX12_pending 16 = .ok (.iload_n 1, 1) := by decide +kernel
theorem dX12_pending_17 : decode cX12_pending 17 = .ok (.aload_n 0, 1) := by decide +kernel
theorem dX12_pending_18 : decode cX12_pending 18 = .ok (.getfield 235, 3) := by decide +kernel
theorem dX12_pending_21 : decode cX12_pending 21 = .ok (.iastore, 1) := by decide +kernel
theorem dX12_pending_22 : decode cX12_pending 22 = .ok (.aload_n 0, 1) := by decide +kernel
theorem dX12_pending_23 : decode cX12_pending 23 = .ok (.getfield 62, 3) := by decide +kernel
theorem dX12_pending_26 : decode cX12_pending 26 = .ok (.iconst 0, 1) := by decide +kernel
theorem dX12_pending_27 : decode cX12_pending 27 = .ok (.aload_n 0, 1) := by decide +kernel
theorem dX12_pending_28 : decode cX12_pending 28 = .ok (.getfield 14, 3) := by decide +kernel
theorem dX12_pending_31 : decode cX12_pending 31 = .ok (.sipush 3630, 3) := by decide +kernel
theorem dX12_pending_34 : decode cX12_pending 34 = .ok (.iconst 3, 1) := by decide +kernel
theorem dX12_pending_35 : decode cX12_pending 35 = .ok (.iload_n 1, 1) := by decide +kernel
theorem dX12_pending_36 : decode cX12_pending 36 = .ok (.imul, 1) := by decide +kernel
theorem dX12_pending_37 : decode cX12_pending 37 = .ok (.iadd, 1) := by decide +kernel
theorem dX12_pending_38 : decode cX12_pending 38 = .ok (.iaload, 1) := by decide +kernel
theorem dX12_pending_39 : decode cX12_pending 39 = .ok (.iastore, 1) := by decide +kernel
theorem dX12_pending_40 : decode cX12_pending 40 = .ok (.aload_n 0, 1) := by decide +kernel
theorem dX12_pending_41 : decode cX12_pending 41 = .ok (.getfield 65, 3) := by decide +kernel
theorem dX12_pending_44 : decode cX12_pending 44 = .ok (.iconst 0, 1) := by decide +kernel
theorem dX12_pending_45 : decode cX12_pending 45 = .ok (.aload_n 0, 1) := by decide +kernel
theorem dX12_pending_46 : decode cX12_pending 46 = .ok (.getfield 14, 3) := by decide +kernel
theorem dX12_pending_49 : decode cX12_pending 49 = .ok (.sipush 3630, 3) := by decide +kernel
theorem dX12_pending_52 : decode cX12_pending 52 = .ok (.iconst 3, 1) := by decide +kernel
theorem dX12_pending_53 : decode cX12_pending 53 = .ok (.iload_n 1, 1) := by decide +kernel
theorem dX12_pending_54 : decode cX12_pending 54 = .ok (.imul, 1) := by decide +kernel
theorem dX12_pending_55 : decode cX12_pending 55 = .ok (.iadd, 1) := by decide +kernel
theorem dX12_pending_56 : decode cX12_pending 56 = .ok (.iconst 1, 1) := by decide +kernel
theorem dX12_pending_57 : decode cX12_pending 57 = .ok (.iadd, 1) := by decide +kernel
theorem dX12_pending_58 : decode cX12_pending 58 = .ok (.iaload, 1) := by decide +kernel
theorem dX12_pending_59 : decode cX12_pending 59 = .ok (.iastore, 1) := by decide +kernel
theorem dX12_pending_60 : decode cX12_pending 60 = .ok (.iload_n 2, 1) := by decide +kernel
theorem dX12_pending_61 : decode cX12_pending 61 = .ok (.ifCond .le 193, 3) := by decide +kernel
theorem dX12_pending_64 : decode cX12_pending 64 = .ok (.aload_n 0, 1) := by decide +kernel
theorem dX12_pending_65 : decode cX12_pending 65 = .ok (.getfield 65, 3) := by decide +kernel
theorem dX12_pending_68 : decode cX12_pending 68 = .ok (.iload_n 2, 1) := by decide +kernel
theorem dX12_pending_69 : decode cX12_pending 69 = .ok (.iconst 1, 1) := by decide +kernel
theorem dX12_pending_70 : decode cX12_pending 70 = .ok (.isub, 1) := by decide +kernel
theorem dX12_pending_71 : decode cX12_pending 71 = .ok (.iaload, 1) := by decide +kernel
theorem dX12_pending_72 : decode cX12_pending 72 = .ok (.ifCond .ne 9, 3) := by decide +kernel
theorem dX12_pending_75 : decode cX12_pending 75 = .ok (.iinc 2 (-1), 3) := by decide +kernel
theorem dX12_pending_78 : decode cX12_pending 78 = .ok (.goto (-18), 3) := by decide +kernel
theorem dX12_pending_81 : decode cX12_pending 81 = .ok (.aload_n 0, 1) := by decide +kernel
theorem dX12_pending_82 : decode cX12_pending 82 = .ok (.getfield 62, 3) := by decide +kernel
theorem dX12_pending_85 : decode cX12_pending 85 = .ok (.iload_n 2, 1) := by decide +kernel
theorem dX12_pending_86 : decode cX12_pending 86 = .ok (.iconst 1, 1) := by decide +kernel
theorem dX12_pending_87 : decode cX12_pending 87 = .ok (.isub, 1) := by decide +kernel
theorem dX12_pending_88 : decode cX12_pending 88 = .ok (.iaload, 1) := by decide +kernel
theorem dX12_pending_89 : decode cX12_pending 89 = .ok (.istore_n 3, 1) := by decide +kernel
theorem dX12_pending_90 : decode cX12_pending 90 = .ok (.aload_n 0, 1) := by decide +kernel
theorem dX12_pending_91 : decode cX12_pending 91 = .ok (.getfield 62, 3) := by decide +kernel
theorem dX12_pending_94 : decode cX12_pending 94 = .ok (.iload_n 2, 1) := by decide +kernel
theorem dX12_pending_95 : decode cX12_pending 95 = .ok (.iconst 1, 1) := by decide +kernel
theorem dX12_pending_96 : decode cX12_pending 96 = .ok (.isub, 1) := by decide +kernel
theorem dX12_pending_97 : decode cX12_pending 97 = .ok (.aload_n 0, 1) := by decide +kernel
theorem dX12_pending_98 : decode cX12_pending 98 = .ok (.iload_n 3, 1) := by decide +kernel
theorem dX12_pending_99 : decode cX12_pending 99 = .ok (.iconst 5, 1) := by decide +kernel
theorem dX12_pending_100 : decode cX12_pending 100 = .ok (.invokevirtual 213, 3) := by decide +kernel
theorem dX12_pending_103 : decode cX12_pending 103 = .ok (.iastore, 1) := by decide +kernel
theorem dX12_pending_104 : decode cX12_pending 104 = .ok (.aload_n 0, 1) := by decide +kernel
theorem dX12_pending_105 : decode cX12_pending 105 = .ok (.getfield 65, 3) := by decide +kernel
theorem dX12_pending_108 : decode cX12_pending 108 = .ok (.iload_n 2, 1) := by decide +kernel
theorem dX12_pending_109 : decode cX12_pending 109 = .ok (.iconst 1, 1) := by decide +kernel
theorem dX12_pending_110 : decode cX12_pending 110 = .ok (.isub, 1) := by decide +kernel
theorem dX12_pending_111 : decode cX12_pending 111 = .ok (.dup2, 1) := by decide +kernel
theorem dX12_pending_112 : decode cX12_pending 112 = .ok (.iaload, 1) := by decide +kernel
theorem dX12_pending_113 : decode cX12_pending 113 = .ok (.iconst 1, 1) := by decide +kernel
theorem dX12_pending_114 : decode cX12_pending 114 = .ok (.isub, 1) := by decide +kernel
theorem dX12_pending_115 : decode cX12_pending 115 = .ok (.iastore, 1) := by decide +kernel
theorem dX12_pending_116 : decode cX12_pending 116 = .ok (.aload_n 0, 1) := by decide +kernel
theorem dX12_pending_117 : decode cX12_pending 117 = .ok (.iload_n 3, 1) := by decide +kernel
theorem dX12_pending_118 : decode cX12_pending 118 = .ok (.iconst 0, 1) := by decide +kernel
theorem dX12_pending_119 : decode cX12_pending 119 = .ok (.invokevirtual 213, 3) := by decide +kernel
theorem dX12_pending_122 : decode cX12_pending 122 = .ok (.bipush 9, 2) := by decide +kernel
theorem dX12_pending_124 : decode cX12_pending 124 = .ok (.if_icmp .ne 23, 3) := by decide +kernel
theorem dX12_pending_127 : decode cX12_pending 127 = .ok (.aload_n 0, 1) := by decide +kernel
theorem dX12_pending_128 : decode cX12_pending 128 = .ok (.getfield 14, 3) := by decide +kernel
theorem dX12_pending_131 : decode cX12_pending 131 = .ok (.sipush 7230, 3) := by decide +kernel
theorem dX12_pending_134 : decode cX12_pending 134 = .ok (.aload_n 0, 1) := by decide +kernel
theorem dX12_pending_135 : decode cX12_pending 135 = .ok (.iload_n 3, 1) := by decide +kernel
theorem dX12_pending_136 : decode cX12_pending 136 = .ok (.iconst 4, 1) := by decide +kernel
theorem dX12_pending_137 : decode cX12_pending 137 = .ok (.invokevirtual 213, 3) := by decide +kernel
theorem dX12_pending_140 : decode cX12_pending 140 = .ok (.iadd, 1) := by decide +kernel
theorem dX12_pending_141 : decode cX12_pending 141 = .ok (.iaload, 1) := by decide +kernel
theorem dX12_pending_142 : decode cX12_pending 142 = .ok (.ifCond .ne 5, 3) := by decide +kernel
theorem dX12_pending_145 : decode cX12_pending 145 = .ok (.iload_n 3, 1) := by decide +kernel
theorem dX12_pending_146 : decode cX12_pending 146 = .ok (.ireturn, 1) := by decide +kernel
theorem dX12_pending_147 : decode cX12_pending 147 = .ok (.aload_n 0, 1) := by decide +kernel
theorem dX12_pending_148 : decode cX12_pending 148 = .ok (.iload_n 3, 1) := by decide +kernel
theorem dX12_pending_149 : decode cX12_pending 149 = .ok (.iconst 0, 1) := by decide +kernel
theorem dX12_pending_150 : decode cX12_pending 150 = .ok (.invokevirtual 213, 3) := by decide +kernel
theorem dX12_pending_153 : decode cX12_pending 153 = .ok (.bipush 14, 2) := by decide +kernel
theorem dX12_pending_155 : decode cX12_pending 155 = .ok (.if_icmp .ne 96, 3) := by decide +kernel
theorem dX12_pending_158 : decode cX12_pending 158 = .ok (.aload_n 0, 1) := by decide +kernel
theorem dX12_pending_159 : decode cX12_pending 159 = .ok (.aload_n 0, 1) := by decide +kernel
theorem dX12_pending_160 : decode cX12_pending 160 = .ok (.iload_n 3, 1) := by decide +kernel
theorem dX12_pending_161 : decode cX12_pending 161 = .ok (.iconst 4, 1) := by decide +kernel
theorem dX12_pending_162 : decode cX12_pending 162 = .ok (.invokevirtual 213, 3) := by decide +kernel
theorem dX12_pending_165 : decode cX12_pending 165 = .ok (.invokevirtual 232, 3) := by decide +kernel
theorem dX12_pending_168 : decode cX12_pending 168 = .ok (.ifCond .ne 83, 3) := by decide +kernel
theorem dX12_pending_171 : decode cX12_pending 171 = .ok (.aload_n 0, 1) := by decide +kernel
theorem dX12_pending_172 : decode cX12_pending 172 = .ok (.getfield 68, 3) := by decide +kernel
theorem dX12_pending_175 : decode cX12_pending 175 = .ok (.aload_n 0, 1) := by decide +kernel
theorem dX12_pending_176 : decode cX12_pending 176 = .ok (.iload_n 3, 1) := by decide +kernel
theorem dX12_pending_177 : decode cX12_pending 177 = .ok (.iconst 4, 1) := by decide +kernel
theorem dX12_pending_178 : decode cX12_pending 178 = .ok (.invokevirtual 213, 3) := by decide +kernel
theorem dX12_pending_181 : decode cX12_pending 181 = .ok (.iaload, 1) := by decide +kernel
theorem dX12_pending_182 : decode cX12_pending 182 = .ok (.aload_n 0, 1) := by decide +kernel
theorem dX12_pending_183 : decode cX12_pending 183 = .ok (.getfield 235, 3) := by decide +kernel
theorem dX12_pending_186 : decode cX12_pending 186 = .ok (.if_icmp .eq 65, 3) := by decide +kernel
theorem dX12_pending_189 : decode cX12_pending 189 = .ok (.aload_n 0, 1) := by decide +kernel
theorem dX12_pending_190 : decode cX12_pending 190 = .ok (.iload_n 3, 1) := by decide +kernel
theorem dX12_pending_191 : decode cX12_pending 191 = .ok (.iconst 4, 1) := by decide +kernel
theorem dX12_pending_192 : decode cX12_pending 192 = .ok (.invokevirtual 213, 3) := by decide +kernel
theorem dX12_pending_195 : decode cX12_pending 195 = .ok (.istore 4, 2) := by decide +kernel
theorem dX12_pending_197 : decode cX12_pending 197 = .ok (.aload_n 0, 1) := by decide +kernel
theorem dX12_pending_198 : decode cX12_pending 198 = .ok (.getfield 68, 3) := by decide +kernel
theorem dX12_pending_201 : decode cX12_pending 201 = .ok (.iload 4, 2) := by decide +kernel
theorem dX12_pending_203 : decode cX12_pending 203 = .ok (.aload_n 0, 1) := by decide +kernel
theorem dX12_pending_204 : decode cX12_pending 204 = .ok (.getfield 235, 3) := by decide +kernel
theorem dX12_pending_207 : decode cX12_pending 207 = .ok (.iastore, 1) := by decide +kernel
theorem dX12_pending_208 : decode cX12_pending 208 = .ok (.aload_n 0, 1) := by decide +kernel
theorem dX12_pending_209 : decode cX12_pending 209 = .ok (.getfield 62, 3) := by decide +kernel
theorem dX12_pending_212 : decode cX12_pending 212 = .ok (.iload_n 2, 1) := by decide +kernel
theorem dX12_pending_213 : decode cX12_pending 213 = .ok (.aload_n 0, 1) := by decide +kernel
theorem dX12_pending_214 : decode cX12_pending 214 = .ok (.getfield 14, 3) := by decide +kernel
theorem dX12_pending_217 : decode cX12_pending 217 = .ok (.sipush 3630, 3) := by decide +kernel
theorem dX12_pending_220 : decode cX12_pending 220 = .ok (.iconst 3, 1) := by decide +kernel
theorem dX12_pending_221 : decode cX12_pending 221 = .ok (.iload 4, 2) := by decide +kernel
theorem dX12_pending_223 : decode cX12_pending 223 = .ok (.imul, 1) := by decide +kernel
theorem dX12_pending_224 : decode cX12_pending 224 = .ok (.iadd, 1) := by decide +kernel
theorem dX12_pending_225 : decode cX12_pending 225 = .ok (.iaload, 1) := by decide +kernel
theorem dX12_pending_226 : decode cX12_pending 226 = .ok (.iastore, 1) := by decide +kernel
theorem dX12_pending_227 : decode cX12_pending 227 = .ok (.aload_n 0, 1) := by decide +kernel
theorem dX12_pending_228 : decode cX12_pending 228 = .ok (.getfield 65, 3) := by decide +kernel
theorem dX12_pending_231 : decode cX12_pending 231 = .ok (.iload_n 2, 1) := by decide +kernel
theorem dX12_pending_232 : decode cX12_pending 232 = .ok (.aload_n 0, 1) := by decide +kernel
theorem dX12_pending_233 : decode cX12_pending 233 = .ok (.getfield 14, 3) := by decide +kernel
theorem dX12_pending_236 : decode cX12_pending 236 = .ok (.sipush 3630, 3) := by decide +kernel
theorem dX12_pending_239 : decode cX12_pending 239 = .ok (.iconst 3, 1) := by decide +kernel
theorem dX12_pending_240 : decode cX12_pending 240 = .ok (.iload 4, 2) := by decide +kernel
theorem dX12_pending_242 : decode cX12_pending 242 = .ok (.imul, 1) := by decide +kernel
theorem dX12_pending_243 : decode cX12_pending 243 = .ok (.iadd, 1) := by decide +kernel
theorem dX12_pending_244 : decode cX12_pending 244 = .ok (.iconst 1, 1) := by decide +kernel
theorem dX12_pending_245 : decode cX12_pending 245 = .ok (.iadd, 1) := by decide +kernel
theorem dX12_pending_246 : decode cX12_pending 246 = .ok (.iaload, 1) := by decide +kernel
theorem dX12_pending_247 : decode cX12_pending 247 = .ok (.iastore, 1) := by decide +kernel
theorem dX12_pending_248 : decode cX12_pending 248 = .ok (.iinc 2 1, 3) := by decide +kernel
theorem dX12_pending_251 : decode cX12_pending 251 = .ok (.goto (-191), 3) := by decide +kernel
theorem dX12_pending_254 : decode cX12_pending 254 = .ok (.bipush (-9), 2) := by decide +kernel
theorem dX12_pending_256 : decode cX12_pending 256 = .ok (.ireturn, 1) := by decide +kernel
theorem dX12_executeFinalizer_0 : decode cX12_executeFinalizer 0 = .ok (.aload_n 0, 1) := by decide +kernel
theorem dX12_executeFinalizer_1 : decode cX12_executeFinalizer 1 = .ok (.getfield 14, 3) := by decide +kernel
theorem dX12_executeFinalizer_4 : decode cX12_executeFinalizer 4 = .ok (.sipush 7230, 3) := by decide +kernel
theorem dX12_executeFinalizer_7 : decode cX12_executeFinalizer 7 = .ok (.aload_n 0, 1) := by decide +kernel
theorem dX12_executeFinalizer_8 : decode cX12_executeFinalizer 8 = .ok (.iload_n 1, 1) := by decide +kernel
theorem dX12_executeFinalizer_9 : decode cX12_executeFinalizer 9 = .ok (.iconst 4, 1) := by decide +kernel
theorem dX12_executeFinalizer_10 : decode cX12_executeFinalizer 10 = .ok (.invokevirtual 213, 3) := by decide +kernel
theorem dX12_executeFinalizer_13 : decode cX12_executeFinalizer 13 = .ok (.iadd, 1) := by decide +kernel
theorem dX12_executeFinalizer_14 : decode cX12_executeFinalizer 14 = .ok (.iconst 1, 1) := by decide +kernel
theorem dX12_executeFinalizer_15 : decode cX12_executeFinalizer 15 = .ok (.iastore, 1) := by decide +kernel
theorem dX12_executeFinalizer_16 : decode cX12_executeFinalizer 16 = .ok (.aload_n 0, 1) := by decide +kernel
theorem dX12_executeFinalizer_17 : decode cX12_executeFinalizer 17 = .ok (.getfield 14, 3) := by decide +kernel
theorem dX12_executeFinalizer_20 : decode cX12_executeFinalizer 20 = .ok (.bipush 14, 2) := by decide +kernel
theorem dX12_executeFinalizer_22 : decode cX12_executeFinalizer 22 = .ok (.dup2, 1) := by decide +kernel
theorem dX12_executeFinalizer_23 : decode cX12_executeFinalizer 23 = .ok (.iaload, 1) := by decide +kernel
theorem dX12_executeFinalizer_24 : decode cX12_executeFinalizer 24 = .ok (.iconst 1, 1) := by decide +kernel
theorem dX12_executeFinalizer_25 : decode cX12_executeFinalizer 25 = .ok (.iadd, 1) := by decide +kernel
theorem dX12_executeFinalizer_26 : decode cX12_executeFinalizer 26 = .ok (.iastore, 1) := by decide +kernel
theorem dX12_executeFinalizer_27 : decode cX12_executeFinalizer 27 = .ok (.aload_n 0, 1) := by decide +kernel
theorem dX12_executeFinalizer_28 : decode cX12_executeFinalizer 28 = .ok (.bipush 13, 2) := by decide +kernel
theorem dX12_executeFinalizer_30 : decode cX12_executeFinalizer 30 = .ok (.bipush (-9), 2) := by decide +kernel
theorem dX12_executeFinalizer_32 : decode cX12_executeFinalizer 32 = .ok (.bipush (-9), 2) := by decide +kernel
theorem dX12_executeFinalizer_34 : decode cX12_executeFinalizer 34 = .ok (.bipush (-9), 2) := by decide +kernel
theorem dX12_executeFinalizer_36 : decode cX12_executeFinalizer 36 = .ok (.iload_n 2, 1) := by decide +kernel
theorem dX12_executeFinalizer_37 : decode cX12_executeFinalizer 37 = .ok (.invokevirtual 228, 3) := by decide +kernel
theorem dX12_executeFinalizer_40 : decode cX12_executeFinalizer 40 = .ok (.aload_n 0, 1) := by decide +kernel
theorem dX12_executeFinalizer_41 : decode cX12_executeFinalizer 41 = .ok (.aload_n 0, 1) := by decide +kernel
theorem dX12_executeFinalizer_42 : decode cX12_executeFinalizer 42 = .ok (.aload_n 0, 1) := by decide +kernel
theorem dX12_executeFinalizer_43 : decode cX12_executeFinalizer 43 = .ok (.iload_n 1, 1) := by decide +kernel
theorem dX12_executeFinalizer_44 : decode cX12_executeFinalizer 44 = .ok (.iconst 1, 1) := by decide +kernel
theorem dX12_executeFinalizer_45 : decode cX12_executeFinalizer 45 = .ok (.invokevirtual 213, 3) := by decide +kernel
theorem dX12_executeFinalizer_48 : decode cX12_executeFinalizer 48 = .ok (.iconst 2, 1) := by decide +kernel
theorem dX12_executeFinalizer_49 : decode cX12_executeFinalizer 49 = .ok (.invokevirtual 165, 3) := by decide +kernel
theorem dX12_executeFinalizer_52 : decode cX12_executeFinalizer 52 = .ok (.aload_n 0, 1) := by decide +kernel
theorem dX12_executeFinalizer_53 : decode cX12_executeFinalizer 53 = .ok (.iload_n 1, 1) := by decide +kernel
theorem dX12_executeFinalizer_54 : decode cX12_executeFinalizer 54 = .ok (.iconst 2, 1) := by decide +kernel
theorem dX12_executeFinalizer_55 : decode cX12_executeFinalizer 55 = .ok (.invokevirtual 213, 3) := by decide +kernel
theorem dX12_executeFinalizer_58 : decode cX12_executeFinalizer 58 = .ok (.aload_n 0, 1) := by decide +kernel
theorem dX12_executeFinalizer_59 : decode cX12_executeFinalizer 59 = .ok (.iload_n 1, 1) := by decide +kernel
theorem dX12_executeFinalizer_60 : decode cX12_executeFinalizer 60 = .ok (.iconst 3, 1) := by decide +kernel
theorem dX12_executeFinalizer_61 : decode cX12_executeFinalizer 61 = .ok (.invokevirtual 213, 3) := by decide +kernel
theorem dX12_executeFinalizer_64 : decode cX12_executeFinalizer 64 = .ok (.invokevirtual 238, 3) := by decide +kernel
theorem dX12_executeFinalizer_67 : decode cX12_executeFinalizer 67 = .ok (.return_, 1) := by decide +kernel
theorem dX12_closesClause_0 : decode cX12_closesClause 0 = .ok (.aload_n 0, 1) := by decide +kernel
theorem dX12_closesClause_1 : decode cX12_closesClause 1 = .ok (.iload_n 1, 1) := by decide +kernel
theorem dX12_closesClause_2 : decode cX12_closesClause 2 = .ok (.iconst 4, 1) := by decide +kernel
theorem dX12_closesClause_3 : decode cX12_closesClause 3 = .ok (.invokevirtual 213, 3) := by decide +kernel
theorem dX12_closesClause_6 : decode cX12_closesClause 6 = .ok (.istore_n 3, 1) := by decide +kernel
theorem dX12_closesClause_7 : decode cX12_closesClause 7 = .ok (.aload_n 0, 1) := by decide +kernel
theorem dX12_closesClause_8 : decode cX12_closesClause 8 = .ok (.iload_n 3, 1) := by decide +kernel
theorem dX12_closesClause_9 : decode cX12_closesClause 9 = .ok (.invokevirtual 232, 3) := by decide +kernel
theorem dX12_closesClause_12 : decode cX12_closesClause 12 = .ok (.ifCond .ne 11, 3) := by decide +kernel
theorem dX12_closesClause_15 : decode cX12_closesClause 15 = .ok (.aload_n 0, 1) := by decide +kernel
theorem dX12_closesClause_16 : decode cX12_closesClause 16 = .ok (.iload_n 3, 1) := by decide +kernel
theorem dX12_closesClause_17 : decode cX12_closesClause 17 = .ok (.invokevirtual 241, 3) := by decide +kernel
theorem dX12_closesClause_20 : decode cX12_closesClause 20 = .ok (.goto 5, 3) := by decide +kernel
theorem dX12_closesClause_23 : decode cX12_closesClause 23 = .ok (.bipush (-9), 2) := by decide +kernel
theorem dX12_closesClause_25 : decode cX12_closesClause 25 = .ok (.istore 4, 2) := by decide +kernel
theorem dX12_closesClause_27 : decode cX12_closesClause 27 = .ok (.iload 4, 2) := by decide +kernel
theorem dX12_closesClause_29 : decode cX12_closesClause 29 = .ok (.bipush (-9), 2) := by decide +kernel
theorem dX12_closesClause_31 : decode cX12_closesClause 31 = .ok (.if_icmp .ne 10, 3) := by decide +kernel
theorem dX12_closesClause_34 : decode cX12_closesClause 34 = .ok (.aload_n 0, 1) := by decide +kernel
theorem dX12_closesClause_35 : decode cX12_closesClause 35 = .ok (.iload_n 2, 1) := by decide +kernel
theorem dX12_closesClause_36 : decode cX12_closesClause 36 = .ok (.invokevirtual 219, 3) := by decide +kernel
theorem dX12_closesClause_39 : decode cX12_closesClause 39 = .ok (.iconst 1, 1) := by decide +kernel
theorem dX12_closesClause_40 : decode cX12_closesClause 40 = .ok (.ireturn, 1) := by decide +kernel
theorem dX12_closesClause_41 : decode cX12_closesClause 41 = .ok (.aload_n 0, 1) := by decide +kernel
theorem dX12_closesClause_42 : decode cX12_closesClause 42 = .ok (.invokevirtual 216, 3) := by decide +kernel
theorem dX12_closesClause_45 : decode cX12_closesClause 45 = .ok (.iconst 2, 1) := by decide +kernel
theorem dX12_closesClause_46 : decode cX12_closesClause 46 = .ok (.iadd, 1) := by decide +kernel
theorem dX12_closesClause_47 : decode cX12_closesClause 47 = .ok (.bipush 100, 2) := by decide +kernel
theorem dX12_closesClause_49 : decode cX12_closesClause 49 = .ok (.if_icmp .le 5, 3) := by decide +kernel
theorem dX12_closesClause_52 : decode cX12_closesClause 52 = .ok (.iconst 0, 1) := by decide +kernel
theorem dX12_closesClause_53 : decode cX12_closesClause 53 = .ok (.ireturn, 1) := by decide +kernel
theorem dX12_closesClause_54 : decode cX12_closesClause 54 = .ok (.aload_n 0, 1) := by decide +kernel
theorem dX12_closesClause_55 : decode cX12_closesClause 55 = .ok (.bipush 14, 2) := by decide +kernel
theorem dX12_closesClause_57 : decode cX12_closesClause 57 = .ok (.bipush (-9), 2) := by decide +kernel
theorem dX12_closesClause_59 : decode cX12_closesClause 59 = .ok (.bipush (-9), 2) := by decide +kernel
theorem dX12_closesClause_61 : decode cX12_closesClause 61 = .ok (.bipush (-9), 2) := by decide +kernel
theorem dX12_closesClause_63 : decode cX12_closesClause 63 = .ok (.iload_n 3, 1) := by decide +kernel
theorem dX12_closesClause_64 : decode cX12_closesClause 64 = .ok (.invokevirtual 228, 3) := by decide +kernel
theorem dX12_closesClause_67 : decode cX12_closesClause 67 = .ok (.aload_n 0, 1) := by decide +kernel
theorem dX12_closesClause_68 : decode cX12_closesClause 68 = .ok (.iload 4, 2) := by decide +kernel
theorem dX12_closesClause_70 : decode cX12_closesClause 70 = .ok (.iload_n 2, 1) := by decide +kernel
theorem dX12_closesClause_71 : decode cX12_closesClause 71 = .ok (.invokevirtual 244, 3) := by decide +kernel
theorem dX12_closesClause_74 : decode cX12_closesClause 74 = .ok (.iconst 1, 1) := by decide +kernel
theorem dX12_closesClause_75 : decode cX12_closesClause 75 = .ok (.ireturn, 1) := by decide +kernel
theorem dX12_handlerOf_0 : decode cX12_handlerOf 0 = .ok (.iconst 0, 1) := by decide +kernel
theorem dX12_handlerOf_1 : decode cX12_handlerOf 1 = .ok (.istore_n 2, 1) := by decide +kernel
theorem dX12_handlerOf_2 : decode cX12_handlerOf 2 = .ok (.aload_n 0, 1) := by decide +kernel
theorem dX12_handlerOf_3 : decode cX12_handlerOf 3 = .ok (.iconst 0, 1) := by decide +kernel
theorem dX12_handlerOf_4 : decode cX12_handlerOf 4 = .ok (.putfield 248, 3) := by decide +kernel
theorem dX12_handlerOf_7 : decode cX12_handlerOf 7 = .ok (.aload_n 0, 1) := by decide +kernel
theorem dX12_handlerOf_8 : decode cX12_handlerOf 8 = .ok (.getfield 14, 3) := by decide +kernel
theorem dX12_handlerOf_11 : decode cX12_handlerOf 11 = .ok (.bipush 7, 2) := by decide +kernel
theorem dX12_handlerOf_13 : decode cX12_handlerOf 13 = .ok (.iaload, 1) := by decide +kernel
theorem dX12_handlerOf_14 : decode cX12_handlerOf 14 = .ok (.istore_n 3, 1) := by decide +kernel
theorem dX12_handlerOf_15 : decode cX12_handlerOf 15 = .ok (.iload_n 3, 1) := by decide +kernel
theorem dX12_handlerOf_16 : decode cX12_handlerOf 16 = .ok (.bipush (-9), 2) := by decide +kernel
theorem dX12_handlerOf_18 : decode cX12_handlerOf 18 = .ok (.if_icmp .eq 87, 3) := by decide +kernel
theorem dX12_handlerOf_21 : decode cX12_handlerOf 21 = .ok (.aload_n 0, 1) := by decide +kernel
theorem dX12_handlerOf_22 : decode cX12_handlerOf 22 = .ok (.iload_n 3, 1) := by decide +kernel
theorem dX12_handlerOf_23 : decode cX12_handlerOf 23 = .ok (.iconst 1, 1) := by decide +kernel
theorem dX12_handlerOf_24 : decode cX12_handlerOf 24 = .ok (.invokevirtual 213, 3) := by decide +kernel
theorem dX12_handlerOf_27 : decode cX12_handlerOf 27 = .ok (.istore 4, 2) := by decide +kernel
theorem dX12_handlerOf_29 : decode cX12_handlerOf 29 = .ok (.aload_n 0, 1) := by decide +kernel
theorem dX12_handlerOf_30 : decode cX12_handlerOf 30 = .ok (.iload_n 3, 1) := by decide +kernel
theorem dX12_handlerOf_31 : decode cX12_handlerOf 31 = .ok (.iconst 0, 1) := by decide +kernel
theorem dX12_handlerOf_32 : decode cX12_handlerOf 32 = .ok (.invokevirtual 213, 3) := by decide +kernel
theorem dX12_handlerOf_35 : decode cX12_handlerOf 35 = .ok (.bipush 8, 2) := by decide +kernel
theorem dX12_handlerOf_37 : decode cX12_handlerOf 37 = .ok (.if_icmp .ne 16, 3) := by decide +kernel
theorem dX12_handlerOf_40 : decode cX12_handlerOf 40 = .ok (.aload_n 0, 1) := by decide +kernel
theorem dX12_handlerOf_41 : decode cX12_handlerOf 41 = .ok (.iload 4, 2) := by decide +kernel
theorem dX12_handlerOf_43 : decode cX12_handlerOf 43 = .ok (.invokevirtual 137, 3) := by decide +kernel
theorem dX12_handlerOf_46 : decode cX12_handlerOf 46 = .ok (.iload_n 1, 1) := by decide +kernel
theorem dX12_handlerOf_47 : decode cX12_handlerOf 47 = .ok (.if_icmp .ne 6, 3) := by decide +kernel
theorem dX12_handlerOf_50 : decode cX12_handlerOf 50 = .ok (.iinc 2 1, 3) := by decide +kernel
theorem dX12_handlerOf_53 : decode cX12_handlerOf 53 = .ok (.aload_n 0, 1) := by decide +kernel
theorem dX12_handlerOf_54 : decode cX12_handlerOf 54 = .ok (.iload_n 3, 1) := by decide +kernel
theorem dX12_handlerOf_55 : decode cX12_handlerOf 55 = .ok (.iconst 0, 1) := by decide +kernel
theorem dX12_handlerOf_56 : decode cX12_handlerOf 56 = .ok (.invokevirtual 213, 3) := by decide +kernel
theorem dX12_handlerOf_59 : decode cX12_handlerOf 59 = .ok (.bipush 12, 2) := by decide +kernel
theorem dX12_handlerOf_61 : decode cX12_handlerOf 61 = .ok (.if_icmp .ne 24, 3) := by decide +kernel
theorem dX12_handlerOf_64 : decode cX12_handlerOf 64 = .ok (.aload_n 0, 1) := by decide +kernel
theorem dX12_handlerOf_65 : decode cX12_handlerOf 65 = .ok (.iload 4, 2) := by decide +kernel
theorem dX12_handlerOf_67 : decode cX12_handlerOf 67 = .ok (.iload_n 1, 1) := by decide +kernel
theorem dX12_handlerOf_68 : decode cX12_handlerOf 68 = .ok (.invokevirtual 131, 3) := by decide +kernel
theorem dX12_handlerOf_71 : decode cX12_handlerOf 71 = .ok (.bipush (-9), 2) := by decide +kernel
theorem dX12_handlerOf_73 : decode cX12_handlerOf 73 = .ok (.if_icmp .eq 12, 3) := by decide +kernel
theorem dX12_handlerOf_76 : decode cX12_handlerOf 76 = .ok (.iload_n 2, 1) := by decide +kernel
theorem dX12_handlerOf_77 : decode cX12_handlerOf 77 = .ok (.ifCond .ne 5, 3) := by decide +kernel
theorem dX12_handlerOf_80 : decode cX12_handlerOf 80 = .ok (.iload_n 3, 1) := by decide +kernel
theorem dX12_handlerOf_81 : decode cX12_handlerOf 81 = .ok (.ireturn, 1) := by decide +kernel
theorem dX12_handlerOf_82 : decode cX12_handlerOf 82 = .ok (.iinc 2 (-1), 3) := by decide +kernel
theorem dX12_handlerOf_85 : decode cX12_handlerOf 85 = .ok (.aload_n 0, 1) := by decide +kernel
theorem dX12_handlerOf_86 : decode cX12_handlerOf 86 = .ok (.iload_n 3, 1) := by decide +kernel
theorem dX12_handlerOf_87 : decode cX12_handlerOf 87 = .ok (.iconst 5, 1) := by decide +kernel
theorem dX12_handlerOf_88 : decode cX12_handlerOf 88 = .ok (.invokevirtual 213, 3) := by decide +kernel
theorem dX12_handlerOf_91 : decode cX12_handlerOf 91 = .ok (.istore_n 3, 1) := by decide +kernel
theorem dX12_handlerOf_92 : decode cX12_handlerOf 92 = .ok (.aload_n 0, 1) := by decide +kernel
theorem dX12_handlerOf_93 : decode cX12_handlerOf 93 = .ok (.dup, 1) := by decide +kernel
theorem dX12_handlerOf_94 : decode cX12_handlerOf 94 = .ok (.getfield 248, 3) := by decide +kernel
theorem dX12_handlerOf_97 : decode cX12_handlerOf 97 = .ok (.iconst 1, 1) := by decide +kernel
theorem dX12_handlerOf_98 : decode cX12_handlerOf 98 = .ok (.iadd, 1) := by decide +kernel
theorem dX12_handlerOf_99 : decode cX12_handlerOf 99 = .ok (.putfield 248, 3) := by decide +kernel
theorem dX12_handlerOf_102 : decode cX12_handlerOf 102 = .ok (.goto (-87), 3) := by decide +kernel
theorem dX12_handlerOf_105 : decode cX12_handlerOf 105 = .ok (.bipush (-9), 2) := by decide +kernel
theorem dX12_handlerOf_107 : decode cX12_handlerOf 107 = .ok (.ireturn, 1) := by decide +kernel
theorem dX12_perform_0 : decode cX12_perform 0 = .ok (.aload_n 0, 1) := by decide +kernel
theorem dX12_perform_1 : decode cX12_perform 1 = .ok (.getfield 14, 3) := by decide +kernel
theorem dX12_perform_4 : decode cX12_perform 4 = .ok (.bipush 10, 2) := by decide +kernel
theorem dX12_perform_6 : decode cX12_perform 6 = .ok (.dup2, 1) := by decide +kernel
theorem dX12_perform_7 : decode cX12_perform 7 = .ok (.iaload, 1) := by decide +kernel
theorem dX12_perform_8 : decode cX12_perform 8 = .ok (.iconst 1, 1) := by decide +kernel
theorem dX12_perform_9 : decode cX12_perform 9 = .ok (.iadd, 1) := by decide +kernel
theorem dX12_perform_10 : decode cX12_perform 10 = .ok (.iastore, 1) := by decide +kernel
theorem dX12_perform_11 : decode cX12_perform 11 = .ok (.aload_n 0, 1) := by decide +kernel
theorem dX12_perform_12 : decode cX12_perform 12 = .ok (.getfield 14, 3) := by decide +kernel
theorem dX12_perform_15 : decode cX12_perform 15 = .ok (.bipush 24, 2) := by decide +kernel
theorem dX12_perform_17 : decode cX12_perform 17 = .ok (.iload_n 1, 1) := by decide +kernel
theorem dX12_perform_18 : decode cX12_perform 18 = .ok (.iadd, 1) := by decide +kernel
theorem dX12_perform_19 : decode cX12_perform 19 = .ok (.dup2, 1) := by decide +kernel
theorem dX12_perform_20 : decode cX12_perform 20 = .ok (.iaload, 1) := by decide +kernel
theorem dX12_perform_21 : decode cX12_perform 21 = .ok (.iconst 1, 1) := by decide +kernel
theorem dX12_perform_22 : decode cX12_perform 22 = .ok (.iadd, 1) := by decide +kernel
theorem dX12_perform_23 : decode cX12_perform 23 = .ok (.iastore, 1) := by decide +kernel
theorem dX12_perform_24 : decode cX12_perform 24 = .ok (.aload_n 0, 1) := by decide +kernel
theorem dX12_perform_25 : decode cX12_perform 25 = .ok (.iload_n 1, 1) := by decide +kernel
theorem dX12_perform_26 : decode cX12_perform 26 = .ok (.invokevirtual 251, 3) := by decide +kernel
theorem dX12_perform_29 : decode cX12_perform 29 = .ok (.istore_n 3, 1) := by decide +kernel
theorem dX12_perform_30 : decode cX12_perform 30 = .ok (.iload_n 3, 1) := by decide +kernel
theorem dX12_perform_31 : decode cX12_perform 31 = .ok (.bipush (-9), 2) := by decide +kernel
theorem dX12_perform_33 : decode cX12_perform 33 = .ok (.if_icmp .ne 35, 3) := by decide +kernel
theorem dX12_perform_36 : decode cX12_perform 36 = .ok (.aload_n 0, 1) := by decide +kernel
theorem dX12_perform_37 : decode cX12_perform 37 = .ok (.getfield 14, 3) := by decide +kernel
theorem dX12_perform_40 : decode cX12_perform 40 = .ok (.iconst 5, 1) := by decide +kernel
theorem dX12_perform_41 : decode cX12_perform 41 = .ok (.iconst 3, 1) := by decide +kernel
theorem dX12_perform_42 : decode cX12_perform 42 = .ok (.iastore, 1) := by decide +kernel
theorem dX12_perform_43 : decode cX12_perform 43 = .ok (.aload_n 0, 1) := by decide +kernel
theorem dX12_perform_44 : decode cX12_perform 44 = .ok (.getfield 14, 3) := by decide +kernel
theorem dX12_perform_47 : decode cX12_perform 47 = .ok (.bipush 15, 2) := by decide +kernel
theorem dX12_perform_49 : decode cX12_perform 49 = .ok (.iload_n 1, 1) := by decide +kernel
theorem dX12_perform_50 : decode cX12_perform 50 = .ok (.iastore, 1) := by decide +kernel
theorem dX12_perform_51 : decode cX12_perform 51 = .ok (.aload_n 0, 1) := by decide +kernel
theorem dX12_perform_52 : decode cX12_perform 52 = .ok (.getfield 14, 3) := by decide +kernel
theorem dX12_perform_55 : decode cX12_perform 55 = .ok (.bipush 20, 2) := by decide +kernel
theorem dX12_perform_57 : decode cX12_perform 57 = .ok (.iload_n 2, 1) := by decide +kernel
theorem dX12_perform_58 : decode cX12_perform 58 = .ok (.iastore, 1) := by decide +kernel
theorem dX12_perform_59 : decode cX12_perform 59 = .ok (.aload_n 0, 1) := by decide +kernel
theorem dX12_perform_60 : decode cX12_perform 60 = .ok (.getfield 14, 3) := by decide +kernel
theorem dX12_perform_63 : decode cX12_perform 63 = .ok (.bipush 16, 2) := by decide +kernel
theorem dX12_perform_65 : decode cX12_perform 65 = .ok (.iconst 0, 1) := by decide +kernel
theorem dX12_perform_66 : decode cX12_perform 66 = .ok (.iastore, 1) := by decide +kernel
theorem dX12_perform_67 : decode cX12_perform 67 = .ok (.return_, 1) := by decide +kernel
theorem dX12_perform_68 : decode cX12_perform 68 = .ok (.aload_n 0, 1) := by decide +kernel
theorem dX12_perform_69 : decode cX12_perform 69 = .ok (.aload_n 0, 1) := by decide +kernel
theorem dX12_perform_70 : decode cX12_perform 70 = .ok (.getfield 14, 3) := by decide +kernel
theorem dX12_perform_73 : decode cX12_perform 73 = .ok (.bipush 7, 2) := by decide +kernel
theorem dX12_perform_75 : decode cX12_perform 75 = .ok (.iaload, 1) := by decide +kernel
theorem dX12_perform_76 : decode cX12_perform 76 = .ok (.aload_n 0, 1) := by decide +kernel
theorem dX12_perform_77 : decode cX12_perform 77 = .ok (.getfield 248, 3) := by decide +kernel
theorem dX12_perform_80 : decode cX12_perform 80 = .ok (.iconst 1, 1) := by decide +kernel
theorem dX12_perform_81 : decode cX12_perform 81 = .ok (.iadd, 1) := by decide +kernel
theorem dX12_perform_82 : decode cX12_perform 82 = .ok (.invokevirtual 254, 3) := by decide +kernel
theorem dX12_perform_85 : decode cX12_perform 85 = .ok (.istore 4, 2) := by decide +kernel
theorem dX12_perform_87 : decode cX12_perform 87 = .ok (.aload_n 0, 1) := by decide +kernel
theorem dX12_perform_88 : decode cX12_perform 88 = .ok (.aload_n 0, 1) := by decide +kernel
theorem dX12_perform_89 : decode cX12_perform 89 = .ok (.iload_n 3, 1) := by decide +kernel
theorem dX12_perform_90 : decode cX12_perform 90 = .ok (.iconst 1, 1) := by decide +kernel
theorem dX12_perform_91 : decode cX12_perform 91 = .ok (.invokevirtual 213, 3) := by decide +kernel
theorem dX12_perform_94 : decode cX12_perform 94 = .ok (.iload_n 1, 1) := by decide +kernel
theorem dX12_perform_95 : decode cX12_perform 95 = .ok (.invokevirtual 131, 3) := by decide +kernel
theorem dX12_perform_98 : decode cX12_perform 98 = .ok (.istore 5, 2) := by decide +kernel
theorem dX12_perform_100 : decode cX12_perform 100 = .ok (.aload_n 0, 1) := by decide +kernel
theorem dX12_perform_101 : decode cX12_perform 101 = .ok (.getfield 14, 3) := by decide +kernel
theorem dX12_perform_104 : decode cX12_perform 104 = .ok (.bipush 7, 2) := by decide +kernel
theorem dX12_perform_106 : decode cX12_perform 106 = .ok (.aload_n 0, 1) := by decide +kernel
theorem dX12_perform_107 : decode cX12_perform 107 = .ok (.iload_n 3, 1) := by decide +kernel
theorem dX12_perform_108 : decode cX12_perform 108 = .ok (.iconst 5, 1) := by decide +kernel
theorem dX12_perform_109 : decode cX12_perform 109 = .ok (.invokevirtual 213, 3) := by decide +kernel
theorem dX12_perform_112 : decode cX12_perform 112 = .ok (.iastore, 1) := by decide +kernel
theorem dX12_perform_113 : decode cX12_perform 113 = .ok (.aload_n 0, 1) := by decide +kernel
theorem dX12_perform_114 : decode cX12_perform 114 = .ok (.bipush 14, 2) := by decide +kernel
theorem dX12_perform_116 : decode cX12_perform 116 = .ok (.bipush (-9), 2) := by decide +kernel
theorem dX12_perform_118 : decode cX12_perform 118 = .ok (.bipush (-9), 2) := by decide +kernel
theorem dX12_perform_120 : decode cX12_perform 120 = .ok (.bipush (-9), 2) := by decide +kernel
theorem dX12_perform_122 : decode cX12_perform 122 = .ok (.iload 4, 2) := by decide +kernel
theorem dX12_perform_124 : decode cX12_perform 124 = .ok (.invokevirtual 228, 3) := by decide +kernel
theorem dX12_perform_127 : decode cX12_perform 127 = .ok (.aload_n 0, 1) := by decide +kernel
theorem dX12_perform_128 : decode cX12_perform 128 = .ok (.aload_n 0, 1) := by decide +kernel
theorem dX12_perform_129 : decode cX12_perform 129 = .ok (.iload 5, 2) := by decide +kernel
theorem dX12_perform_131 : decode cX12_perform 131 = .ok (.iconst 1, 1) := by decide +kernel
theorem dX12_perform_132 : decode cX12_perform 132 = .ok (.invokevirtual 165, 3) := by decide +kernel
theorem dX12_perform_135 : decode cX12_perform 135 = .ok (.aload_n 0, 1) := by decide +kernel
theorem dX12_perform_136 : decode cX12_perform 136 = .ok (.aload_n 0, 1) := by decide +kernel
theorem dX12_perform_137 : decode cX12_perform 137 = .ok (.iload_n 3, 1) := by decide +kernel
theorem dX12_perform_138 : decode cX12_perform 138 = .ok (.iconst 2, 1) := by decide +kernel
theorem dX12_perform_139 : decode cX12_perform 139 = .ok (.invokevirtual 213, 3) := by decide +kernel
theorem dX12_perform_142 : decode cX12_perform 142 = .ok (.aload_n 0, 1) := by decide +kernel
theorem dX12_perform_143 : decode cX12_perform 143 = .ok (.iload 5, 2) := by decide +kernel
theorem dX12_perform_145 : decode cX12_perform 145 = .ok (.invokevirtual 137, 3) := by decide +kernel
theorem dX12_perform_148 : decode cX12_perform 148 = .ok (.iload_n 2, 1) := by decide +kernel
theorem dX12_perform_149 : decode cX12_perform 149 = .ok (.invokevirtual 257, 3) := by decide +kernel
theorem dX12_perform_152 : decode cX12_perform 152 = .ok (.iload 4, 2) := by decide +kernel
theorem dX12_perform_154 : decode cX12_perform 154 = .ok (.invokevirtual 238, 3) := by decide +kernel
theorem dX12_perform_157 : decode cX12_perform 157 = .ok (.return_, 1) := by decide +kernel
theorem dX12_leaveHandler_0 : decode cX12_leaveHandler 0 = .ok (.aload_n 0, 1) := by decide +kernel
theorem dX12_leaveHandler_1 : decode cX12_leaveHandler 1 = .ok (.aload_n 0, 1) := by decide +kernel
theorem dX12_leaveHandler_2 : decode cX12_leaveHandler 2 = .ok (.iload_n 1, 1) := by decide +kernel
theorem dX12_leaveHandler_3 : decode cX12_leaveHandler 3 = .ok (.iconst 1, 1) := by decide +kernel
theorem dX12_leaveHandler_4 : decode cX12_leaveHandler 4 = .ok (.invokevirtual 213, 3) := by decide +kernel
theorem dX12_leaveHandler_7 : decode cX12_leaveHandler 7 = .ok (.bipush 6, 2) := by decide +kernel
theorem dX12_leaveHandler_9 : decode cX12_leaveHandler 9 = .ok (.invokevirtual 131, 3) := by decide +kernel
theorem dX12_leaveHandler_12 : decode cX12_leaveHandler 12 = .ok (.istore_n 3, 1) := by decide +kernel
theorem dX12_leaveHandler_13 : decode cX12_leaveHandler 13 = .ok (.iload_n 3, 1) := by decide +kernel
theorem dX12_leaveHandler_14 : decode cX12_leaveHandler 14 = .ok (.bipush (-9), 2) := by decide +kernel
theorem dX12_leaveHandler_16 : decode cX12_leaveHandler 16 = .ok (.if_icmp .ne 11, 3) := by decide +kernel
theorem dX12_leaveHandler_19 : decode cX12_leaveHandler 19 = .ok (.aload_n 0, 1) := by decide +kernel
theorem dX12_leaveHandler_20 : decode cX12_leaveHandler 20 = .ok (.iload_n 2, 1) := by decide +kernel
theorem dX12_leaveHandler_21 : decode cX12_leaveHandler 21 = .ok (.invokevirtual 219, 3) := by decide +kernel
theorem dX12_leaveHandler_24 : decode cX12_leaveHandler 24 = .ok (.goto 35, 3) := by decide +kernel
theorem dX12_leaveHandler_27 : decode cX12_leaveHandler 27 = .ok (.aload_n 0, 1) := by decide +kernel
theorem dX12_leaveHandler_28 : decode cX12_leaveHandler 28 = .ok (.aload_n 0, 1) := by decide +kernel
theorem dX12_leaveHandler_29 : decode cX12_leaveHandler 29 = .ok (.iload_n 3, 1) := by decide +kernel
theorem dX12_leaveHandler_30 : decode cX12_leaveHandler 30 = .ok (.iconst 1, 1) := by decide +kernel
theorem dX12_leaveHandler_31 : decode cX12_leaveHandler 31 = .ok (.invokevirtual 165, 3) := by decide +kernel
theorem dX12_leaveHandler_34 : decode cX12_leaveHandler 34 = .ok (.aload_n 0, 1) := by decide +kernel
theorem dX12_leaveHandler_35 : decode cX12_leaveHandler 35 = .ok (.aload_n 0, 1) := by decide +kernel
theorem dX12_leaveHandler_36 : decode cX12_leaveHandler 36 = .ok (.iload_n 1, 1) := by decide +kernel
theorem dX12_leaveHandler_37 : decode cX12_leaveHandler 37 = .ok (.iconst 2, 1) := by decide +kernel
theorem dX12_leaveHandler_38 : decode cX12_leaveHandler 38 = .ok (.invokevirtual 213, 3) := by decide +kernel
theorem dX12_leaveHandler_41 : decode cX12_leaveHandler 41 = .ok (.aload_n 0, 1) := by decide +kernel
theorem dX12_leaveHandler_42 : decode cX12_leaveHandler 42 = .ok (.iload_n 3, 1) := by decide +kernel
theorem dX12_leaveHandler_43 : decode cX12_leaveHandler 43 = .ok (.invokevirtual 137, 3) := by decide +kernel
theorem dX12_leaveHandler_46 : decode cX12_leaveHandler 46 = .ok (.iload_n 2, 1) := by decide +kernel
theorem dX12_leaveHandler_47 : decode cX12_leaveHandler 47 = .ok (.invokevirtual 257, 3) := by decide +kernel
theorem dX12_leaveHandler_50 : decode cX12_leaveHandler 50 = .ok (.aload_n 0, 1) := by decide +kernel
theorem dX12_leaveHandler_51 : decode cX12_leaveHandler 51 = .ok (.iload_n 1, 1) := by decide +kernel
theorem dX12_leaveHandler_52 : decode cX12_leaveHandler 52 = .ok (.iconst 3, 1) := by decide +kernel
theorem dX12_leaveHandler_53 : decode cX12_leaveHandler 53 = .ok (.invokevirtual 213, 3) := by decide +kernel
theorem dX12_leaveHandler_56 : decode cX12_leaveHandler 56 = .ok (.invokevirtual 238, 3) := by decide +kernel
theorem dX12_leaveHandler_59 : decode cX12_leaveHandler 59 = .ok (.return_, 1) := by decide +kernel
theorem dX12_call_0 : decode cX12_call 0 = .ok (.aload_n 0, 1) := by decide +kernel
theorem dX12_call_1 : decode cX12_call 1 = .ok (.getfield 14, 3) := by decide +kernel
theorem dX12_call_4 : decode cX12_call 4 = .ok (.iconst 1, 1) := by decide +kernel
theorem dX12_call_5 : decode cX12_call 5 = .ok (.aload_n 0, 1) := by decide +kernel
theorem dX12_call_6 : decode cX12_call 6 = .ok (.aload_n 0, 1) := by decide +kernel
theorem dX12_call_7 : decode cX12_call 7 = .ok (.iload_n 1, 1) := by decide +kernel
theorem dX12_call_8 : decode cX12_call 8 = .ok (.iconst 1, 1) := by decide +kernel
theorem dX12_call_9 : decode cX12_call 9 = .ok (.invokevirtual 213, 3) := by decide +kernel
theorem dX12_call_12 : decode cX12_call 12 = .ok (.invokevirtual 137, 3) := by decide +kernel
theorem dX12_call_15 : decode cX12_call 15 = .ok (.iadd, 1) := by decide +kernel
theorem dX12_call_16 : decode cX12_call 16 = .ok (.iaload, 1) := by decide +kernel
theorem dX12_call_17 : decode cX12_call 17 = .ok (.istore_n 3, 1) := by decide +kernel
theorem dX12_call_18 : decode cX12_call 18 = .ok (.iload_n 3, 1) := by decide +kernel
theorem dX12_call_19 : decode cX12_call 19 = .ok (.bipush (-9), 2) := by decide +kernel
theorem dX12_call_21 : decode cX12_call 21 = .ok (.if_icmp .ne 11, 3) := by decide +kernel
theorem dX12_call_24 : decode cX12_call 24 = .ok (.aload_n 0, 1) := by decide +kernel
theorem dX12_call_25 : decode cX12_call 25 = .ok (.iload_n 2, 1) := by decide +kernel
theorem dX12_call_26 : decode cX12_call 26 = .ok (.invokevirtual 219, 3) := by decide +kernel
theorem dX12_call_29 : decode cX12_call 29 = .ok (.goto 19, 3) := by decide +kernel
theorem dX12_call_32 : decode cX12_call 32 = .ok (.aload_n 0, 1) := by decide +kernel
theorem dX12_call_33 : decode cX12_call 33 = .ok (.iload_n 3, 1) := by decide +kernel
theorem dX12_call_34 : decode cX12_call 34 = .ok (.aload_n 0, 1) := by decide +kernel
theorem dX12_call_35 : decode cX12_call 35 = .ok (.bipush (-9), 2) := by decide +kernel
theorem dX12_call_37 : decode cX12_call 37 = .ok (.bipush 23, 2) := by decide +kernel
theorem dX12_call_39 : decode cX12_call 39 = .ok (.iload_n 2, 1) := by decide +kernel
theorem dX12_call_40 : decode cX12_call 40 = .ok (.invokevirtual 257, 3) := by decide +kernel
theorem dX12_call_43 : decode cX12_call 43 = .ok (.bipush (-9), 2) := by decide +kernel
theorem dX12_call_45 : decode cX12_call 45 = .ok (.invokevirtual 238, 3) := by decide +kernel
theorem dX12_call_48 : decode cX12_call 48 = .ok (.return_, 1) := by decide +kernel
theorem dX12_comesTo_0 : decode cX12_comesTo 0 = .ok (.aload_n 0, 1) := by decide +kernel
theorem dX12_comesTo_1 : decode cX12_comesTo 1 = .ok (.iload_n 1, 1) := by decide +kernel
theorem dX12_comesTo_2 : decode cX12_comesTo 2 = .ok (.iconst 1, 1) := by decide +kernel
theorem dX12_comesTo_3 : decode cX12_comesTo 3 = .ok (.invokevirtual 213, 3) := by decide +kernel
theorem dX12_comesTo_6 : decode cX12_comesTo 6 = .ok (.istore_n 3, 1) := by decide +kernel
theorem dX12_comesTo_7 : decode cX12_comesTo 7 = .ok (.aload_n 0, 1) := by decide +kernel
theorem dX12_comesTo_8 : decode cX12_comesTo 8 = .ok (.iload_n 1, 1) := by decide +kernel
theorem dX12_comesTo_9 : decode cX12_comesTo 9 = .ok (.iconst 0, 1) := by decide +kernel
theorem dX12_comesTo_10 : decode cX12_comesTo 10 = .ok (.invokevirtual 213, 3) := by decide +kernel
theorem dX12_comesTo_13 : decode cX12_comesTo 13 = .ok (.tableswitch 322 1 14 #[71, 106, 127, 159, 183, 217, 229, 322, 241, 275, 283, 295, 303, 315], 71) := by decide +kernel
theorem dX12_comesTo_84 : decode cX12_comesTo 84 = .ok (.aload_n 0, 1) := by decide +kernel
theorem dX12_comesTo_85 : decode cX12_comesTo 85 = .ok (.iconst 2, 1) := by decide +kernel
theorem dX12_comesTo_86 : decode cX12_comesTo 86 = .ok (.iload_n 3, 1) := by decide +kernel
theorem dX12_comesTo_87 : decode cX12_comesTo 87 = .ok (.bipush (-9), 2) := by decide +kernel
theorem dX12_comesTo_89 : decode cX12_comesTo 89 = .ok (.bipush (-9), 2) := by decide +kernel
theorem dX12_comesTo_91 : decode cX12_comesTo 91 = .ok (.iload_n 2, 1) := by decide +kernel
theorem dX12_comesTo_92 : decode cX12_comesTo 92 = .ok (.invokevirtual 228, 3) := by decide +kernel
theorem dX12_comesTo_95 : decode cX12_comesTo 95 = .ok (.aload_n 0, 1) := by decide +kernel
theorem dX12_comesTo_96 : decode cX12_comesTo 96 = .ok (.aload_n 0, 1) := by decide +kernel
theorem dX12_comesTo_97 : decode cX12_comesTo 97 = .ok (.iload_n 3, 1) := by decide +kernel
theorem dX12_comesTo_98 : decode cX12_comesTo 98 = .ok (.iconst 2, 1) := by decide +kernel
theorem dX12_comesTo_99 : decode cX12_comesTo 99 = .ok (.invokevirtual 165, 3) := by decide +kernel
theorem dX12_comesTo_102 : decode cX12_comesTo 102 = .ok (.aload_n 0, 1) := by decide +kernel
theorem dX12_comesTo_103 : decode cX12_comesTo 103 = .ok (.iload_n 1, 1) := by decide +kernel
theorem dX12_comesTo_104 : decode cX12_comesTo 104 = .ok (.iconst 2, 1) := by decide +kernel
theorem dX12_comesTo_105 : decode cX12_comesTo 105 = .ok (.invokevirtual 213, 3) := by decide +kernel
theorem dX12_comesTo_108 : decode cX12_comesTo 108 = .ok (.aload_n 0, 1) := by decide +kernel
theorem dX12_comesTo_109 : decode cX12_comesTo 109 = .ok (.iload_n 1, 1) := by decide +kernel
theorem dX12_comesTo_110 : decode cX12_comesTo 110 = .ok (.iconst 3, 1) := by decide +kernel
theorem dX12_comesTo_111 : decode cX12_comesTo 111 = .ok (.invokevirtual 213, 3) := by decide +kernel
theorem dX12_comesTo_114 : decode cX12_comesTo 114 = .ok (.invokevirtual 238, 3) := by decide +kernel
theorem dX12_comesTo_117 : decode cX12_comesTo 117 = .ok (.iconst 1, 1) := by decide +kernel
theorem dX12_comesTo_118 : decode cX12_comesTo 118 = .ok (.ireturn, 1) := by decide +kernel
theorem dX12_comesTo_119 : decode cX12_comesTo 119 = .ok (.aload_n 0, 1) := by decide +kernel
theorem dX12_comesTo_120 : decode cX12_comesTo 120 = .ok (.aload_n 0, 1) := by decide +kernel
theorem dX12_comesTo_121 : decode cX12_comesTo 121 = .ok (.iload_n 3, 1) := by decide +kernel
theorem dX12_comesTo_122 : decode cX12_comesTo 122 = .ok (.invokevirtual 134, 3) := by decide +kernel
theorem dX12_comesTo_125 : decode cX12_comesTo 125 = .ok (.aload_n 0, 1) := by decide +kernel
theorem dX12_comesTo_126 : decode cX12_comesTo 126 = .ok (.iload_n 1, 1) := by decide +kernel
theorem dX12_comesTo_127 : decode cX12_comesTo 127 = .ok (.iconst 4, 1) := by decide +kernel
theorem dX12_comesTo_128 : decode cX12_comesTo 128 = .ok (.invokevirtual 213, 3) := by decide +kernel
theorem dX12_comesTo_131 : decode cX12_comesTo 131 = .ok (.iload_n 2, 1) := by decide +kernel
theorem dX12_comesTo_132 : decode cX12_comesTo 132 = .ok (.invokestatic 260, 3) := by decide +kernel
theorem dX12_comesTo_135 : decode cX12_comesTo 135 = .ok (.invokevirtual 219, 3) := by decide +kernel
theorem dX12_comesTo_138 : decode cX12_comesTo 138 = .ok (.iconst 1, 1) := by decide +kernel
theorem dX12_comesTo_139 : decode cX12_comesTo 139 = .ok (.ireturn, 1) := by decide +kernel
theorem dX12_comesTo_140 : decode cX12_comesTo 140 = .ok (.aload_n 0, 1) := by decide +kernel
theorem dX12_comesTo_141 : decode cX12_comesTo 141 = .ok (.aload_n 0, 1) := by decide +kernel
theorem dX12_comesTo_142 : decode cX12_comesTo 142 = .ok (.iload_n 3, 1) := by decide +kernel
theorem dX12_comesTo_143 : decode cX12_comesTo 143 = .ok (.iload_n 2, 1) := by decide +kernel
theorem dX12_comesTo_144 : decode cX12_comesTo 144 = .ok (.ifCond .eq 7, 3) := by decide +kernel
theorem dX12_comesTo_147 : decode cX12_comesTo 147 = .ok (.iconst 2, 1) := by decide +kernel
theorem dX12_comesTo_148 : decode cX12_comesTo 148 = .ok (.goto 4, 3) := by decide +kernel
theorem dX12_comesTo_151 : decode cX12_comesTo 151 = .ok (.iconst 3, 1) := by decide +kernel
theorem dX12_comesTo_152 : decode cX12_comesTo 152 = .ok (.invokevirtual 165, 3) := by decide +kernel
theorem dX12_comesTo_155 : decode cX12_comesTo 155 = .ok (.aload_n 0, 1) := by decide +kernel
theorem dX12_comesTo_156 : decode cX12_comesTo 156 = .ok (.iload_n 1, 1) := by decide +kernel
theorem dX12_comesTo_157 : decode cX12_comesTo 157 = .ok (.iconst 2, 1) := by decide +kernel
theorem dX12_comesTo_158 : decode cX12_comesTo 158 = .ok (.invokevirtual 213, 3) := by decide +kernel
theorem dX12_comesTo_161 : decode cX12_comesTo 161 = .ok (.aload_n 0, 1) := by decide +kernel
theorem dX12_comesTo_162 : decode cX12_comesTo 162 = .ok (.iload_n 1, 1) := by decide +kernel
theorem dX12_comesTo_163 : decode cX12_comesTo 163 = .ok (.iconst 3, 1) := by decide +kernel
theorem dX12_comesTo_164 : decode cX12_comesTo 164 = .ok (.invokevirtual 213, 3) := by decide +kernel
theorem dX12_comesTo_167 : decode cX12_comesTo 167 = .ok (.invokevirtual 238, 3) := by decide +kernel
theorem dX12_comesTo_170 : decode cX12_comesTo 170 = .ok (.iconst 1, 1) := by decide +kernel
theorem dX12_comesTo_171 : decode cX12_comesTo 171 = .ok (.ireturn, 1) := by decide +kernel
theorem dX12_comesTo_172 : decode cX12_comesTo 172 = .ok (.aload_n 0, 1) := by decide +kernel
theorem dX12_comesTo_173 : decode cX12_comesTo 173 = .ok (.aload_n 0, 1) := by decide +kernel
theorem dX12_comesTo_174 : decode cX12_comesTo 174 = .ok (.iload_n 3, 1) := by decide +kernel
theorem dX12_comesTo_175 : decode cX12_comesTo 175 = .ok (.iconst 2, 1) := by decide +kernel
theorem dX12_comesTo_176 : decode cX12_comesTo 176 = .ok (.invokevirtual 165, 3) := by decide +kernel
theorem dX12_comesTo_179 : decode cX12_comesTo 179 = .ok (.aload_n 0, 1) := by decide +kernel
theorem dX12_comesTo_180 : decode cX12_comesTo 180 = .ok (.iload_n 1, 1) := by decide +kernel
theorem dX12_comesTo_181 : decode cX12_comesTo 181 = .ok (.iconst 2, 1) := by decide +kernel
theorem dX12_comesTo_182 : decode cX12_comesTo 182 = .ok (.invokevirtual 213, 3) := by decide +kernel
theorem dX12_comesTo_185 : decode cX12_comesTo 185 = .ok (.aload_n 0, 1) := by decide +kernel
theorem dX12_comesTo_186 : decode cX12_comesTo 186 = .ok (.iload_n 1, 1) := by decide +kernel
theorem dX12_comesTo_187 : decode cX12_comesTo 187 = .ok (.iconst 3, 1) := by decide +kernel
theorem dX12_comesTo_188 : decode cX12_comesTo 188 = .ok (.invokevirtual 213, 3) := by decide +kernel
theorem dX12_comesTo_191 : decode cX12_comesTo 191 = .ok (.invokevirtual 238, 3) := by decide +kernel
theorem dX12_comesTo_194 : decode cX12_comesTo 194 = .ok (.iconst 1, 1) := by decide +kernel
theorem dX12_comesTo_195 : decode cX12_comesTo 195 = .ok (.ireturn, 1) := by decide +kernel
theorem dX12_comesTo_196 : decode cX12_comesTo 196 = .ok (.aload_n 0, 1) := by decide +kernel
theorem dX12_comesTo_197 : decode cX12_comesTo 197 = .ok (.aload_n 0, 1) := by decide +kernel
theorem dX12_comesTo_198 : decode cX12_comesTo 198 = .ok (.iload_n 3, 1) := by decide +kernel
theorem dX12_comesTo_199 : decode cX12_comesTo 199 = .ok (.iconst 2, 1) := by decide +kernel
theorem dX12_comesTo_200 : decode cX12_comesTo 200 = .ok (.invokevirtual 165, 3) := by decide +kernel
theorem dX12_comesTo_203 : decode cX12_comesTo 203 = .ok (.aload_n 0, 1) := by decide +kernel
theorem dX12_comesTo_204 : decode cX12_comesTo 204 = .ok (.aload_n 0, 1) := by decide +kernel
theorem dX12_comesTo_205 : decode cX12_comesTo 205 = .ok (.iload_n 1, 1) := by decide +kernel
theorem dX12_comesTo_206 : decode cX12_comesTo 206 = .ok (.iconst 2, 1) := by decide +kernel
theorem dX12_comesTo_207 : decode cX12_comesTo 207 = .ok (.invokevirtual 213, 3) := by decide +kernel
theorem dX12_comesTo_210 : decode cX12_comesTo 210 = .ok (.aload_n 0, 1) := by decide +kernel
theorem dX12_comesTo_211 : decode cX12_comesTo 211 = .ok (.iload_n 3, 1) := by decide +kernel
theorem dX12_comesTo_212 : decode cX12_comesTo 212 = .ok (.invokevirtual 137, 3) := by decide +kernel
theorem dX12_comesTo_215 : decode cX12_comesTo 215 = .ok (.iload_n 2, 1) := by decide +kernel
theorem dX12_comesTo_216 : decode cX12_comesTo 216 = .ok (.invokevirtual 257, 3) := by decide +kernel
theorem dX12_comesTo_219 : decode cX12_comesTo 219 = .ok (.aload_n 0, 1) := by decide +kernel
theorem dX12_comesTo_220 : decode cX12_comesTo 220 = .ok (.iload_n 1, 1) := by decide +kernel
theorem dX12_comesTo_221 : decode cX12_comesTo 221 = .ok (.iconst 3, 1) := by decide +kernel
theorem dX12_comesTo_222 : decode cX12_comesTo 222 = .ok (.invokevirtual 213, 3) := by decide +kernel
theorem dX12_comesTo_225 : decode cX12_comesTo 225 = .ok (.invokevirtual 238, 3) := by decide +kernel
theorem dX12_comesTo_228 : decode cX12_comesTo 228 = .ok (.iconst 1, 1) := by decide +kernel
theorem dX12_comesTo_229 : decode cX12_comesTo 229 = .ok (.ireturn, 1) := by decide +kernel
theorem dX12_comesTo_230 : decode cX12_comesTo 230 = .ok (.aload_n 0, 1) := by decide +kernel
theorem dX12_comesTo_231 : decode cX12_comesTo 231 = .ok (.iload_n 2, 1) := by decide +kernel
theorem dX12_comesTo_232 : decode cX12_comesTo 232 = .ok (.invokevirtual 263, 3) := by decide +kernel
theorem dX12_comesTo_235 : decode cX12_comesTo 235 = .ok (.aload_n 0, 1) := by decide +kernel
theorem dX12_comesTo_236 : decode cX12_comesTo 236 = .ok (.iload_n 2, 1) := by decide +kernel
theorem dX12_comesTo_237 : decode cX12_comesTo 237 = .ok (.invokevirtual 219, 3) := by decide +kernel
theorem dX12_comesTo_240 : decode cX12_comesTo 240 = .ok (.iconst 1, 1) := by decide +kernel
theorem dX12_comesTo_241 : decode cX12_comesTo 241 = .ok (.ireturn, 1) := by decide +kernel
theorem dX12_comesTo_242 : decode cX12_comesTo 242 = .ok (.aload_n 0, 1) := by decide +kernel
theorem dX12_comesTo_243 : decode cX12_comesTo 243 = .ok (.aload_n 0, 1) := by decide +kernel
theorem dX12_comesTo_244 : decode cX12_comesTo 244 = .ok (.iload_n 3, 1) := by decide +kernel
theorem dX12_comesTo_245 : decode cX12_comesTo 245 = .ok (.invokevirtual 137, 3) := by decide +kernel
theorem dX12_comesTo_248 : decode cX12_comesTo 248 = .ok (.iload_n 2, 1) := by decide +kernel
theorem dX12_comesTo_249 : decode cX12_comesTo 249 = .ok (.invokevirtual 266, 3) := by decide +kernel
theorem dX12_comesTo_252 : decode cX12_comesTo 252 = .ok (.iconst 1, 1) := by decide +kernel
theorem dX12_comesTo_253 : decode cX12_comesTo 253 = .ok (.ireturn, 1) := by decide +kernel
theorem dX12_comesTo_254 : decode cX12_comesTo 254 = .ok (.aload_n 0, 1) := by decide +kernel
theorem dX12_comesTo_255 : decode cX12_comesTo 255 = .ok (.getfield 14, 3) := by decide +kernel
theorem dX12_comesTo_258 : decode cX12_comesTo 258 = .ok (.sipush 7230, 3) := by decide +kernel
theorem dX12_comesTo_261 : decode cX12_comesTo 261 = .ok (.aload_n 0, 1) := by decide +kernel
theorem dX12_comesTo_262 : decode cX12_comesTo 262 = .ok (.iload_n 1, 1) := by decide +kernel
theorem dX12_comesTo_263 : decode cX12_comesTo 263 = .ok (.iconst 4, 1) := by decide +kernel
theorem dX12_comesTo_264 : decode cX12_comesTo 264 = .ok (.invokevirtual 213, 3) := by decide +kernel
theorem dX12_comesTo_267 : decode cX12_comesTo 267 = .ok (.iadd, 1) := by decide +kernel
theorem dX12_comesTo_268 : decode cX12_comesTo 268 = .ok (.iaload, 1) := by decide +kernel
theorem dX12_comesTo_269 : decode cX12_comesTo 269 = .ok (.ifCond .ne 12, 3) := by decide +kernel
theorem dX12_comesTo_272 : decode cX12_comesTo 272 = .ok (.aload_n 0, 1) := by decide +kernel
theorem dX12_comesTo_273 : decode cX12_comesTo 273 = .ok (.iload_n 1, 1) := by decide +kernel
theorem dX12_comesTo_274 : decode cX12_comesTo 274 = .ok (.iload_n 2, 1) := by decide +kernel
theorem dX12_comesTo_275 : decode cX12_comesTo 275 = .ok (.invokevirtual 244, 3) := by decide +kernel
theorem dX12_comesTo_278 : decode cX12_comesTo 278 = .ok (.goto 8, 3) := by decide +kernel
theorem dX12_comesTo_281 : decode cX12_comesTo 281 = .ok (.aload_n 0, 1) := by decide +kernel
theorem dX12_comesTo_282 : decode cX12_comesTo 282 = .ok (.iload_n 2, 1) := by decide +kernel
theorem dX12_comesTo_283 : decode cX12_comesTo 283 = .ok (.invokevirtual 219, 3) := by decide +kernel
theorem dX12_comesTo_286 : decode cX12_comesTo 286 = .ok (.iconst 1, 1) := by decide +kernel
theorem dX12_comesTo_287 : decode cX12_comesTo 287 = .ok (.ireturn, 1) := by decide +kernel
theorem dX12_comesTo_288 : decode cX12_comesTo 288 = .ok (.aload_n 0, 1) := by decide +kernel
theorem dX12_comesTo_289 : decode cX12_comesTo 289 = .ok (.iload_n 1, 1) := by decide +kernel
theorem dX12_comesTo_290 : decode cX12_comesTo 290 = .ok (.iload_n 2, 1) := by decide +kernel
theorem dX12_comesTo_291 : decode cX12_comesTo 291 = .ok (.invokevirtual 269, 3) := by decide +kernel
theorem dX12_comesTo_294 : decode cX12_comesTo 294 = .ok (.iconst 1, 1) := by decide +kernel
theorem dX12_comesTo_295 : decode cX12_comesTo 295 = .ok (.ireturn, 1) := by decide +kernel
theorem dX12_comesTo_296 : decode cX12_comesTo 296 = .ok (.aload_n 0, 1) := by decide +kernel
theorem dX12_comesTo_297 : decode cX12_comesTo 297 = .ok (.aload_n 0, 1) := by decide +kernel
theorem dX12_comesTo_298 : decode cX12_comesTo 298 = .ok (.iload_n 1, 1) := by decide +kernel
theorem dX12_comesTo_299 : decode cX12_comesTo 299 = .ok (.iconst 4, 1) := by decide +kernel
theorem dX12_comesTo_300 : decode cX12_comesTo 300 = .ok (.invokevirtual 213, 3) := by decide +kernel
theorem dX12_comesTo_303 : decode cX12_comesTo 303 = .ok (.iload_n 2, 1) := by decide +kernel
theorem dX12_comesTo_304 : decode cX12_comesTo 304 = .ok (.invokevirtual 272, 3) := by decide +kernel
theorem dX12_comesTo_307 : decode cX12_comesTo 307 = .ok (.ireturn, 1) := by decide +kernel
theorem dX12_comesTo_308 : decode cX12_comesTo 308 = .ok (.aload_n 0, 1) := by decide +kernel
theorem dX12_comesTo_309 : decode cX12_comesTo 309 = .ok (.iload_n 1, 1) := by decide +kernel
theorem dX12_comesTo_310 : decode cX12_comesTo 310 = .ok (.iload_n 2, 1) := by decide +kernel
theorem dX12_comesTo_311 : decode cX12_comesTo 311 = .ok (.invokevirtual 275, 3) := by decide +kernel
theorem dX12_comesTo_314 : decode cX12_comesTo 314 = .ok (.iconst 1, 1) := by decide +kernel
theorem dX12_comesTo_315 : decode cX12_comesTo 315 = .ok (.ireturn, 1) := by decide +kernel
theorem dX12_comesTo_316 : decode cX12_comesTo 316 = .ok (.aload_n 0, 1) := by decide +kernel
theorem dX12_comesTo_317 : decode cX12_comesTo 317 = .ok (.aload_n 0, 1) := by decide +kernel
theorem dX12_comesTo_318 : decode cX12_comesTo 318 = .ok (.iload_n 1, 1) := by decide +kernel
theorem dX12_comesTo_319 : decode cX12_comesTo 319 = .ok (.iconst 4, 1) := by decide +kernel
theorem dX12_comesTo_320 : decode cX12_comesTo 320 = .ok (.invokevirtual 213, 3) := by decide +kernel
theorem dX12_comesTo_323 : decode cX12_comesTo 323 = .ok (.invokevirtual 219, 3) := by decide +kernel
theorem dX12_comesTo_326 : decode cX12_comesTo 326 = .ok (.iconst 1, 1) := by decide +kernel
theorem dX12_comesTo_327 : decode cX12_comesTo 327 = .ok (.ireturn, 1) := by decide +kernel
theorem dX12_comesTo_328 : decode cX12_comesTo 328 = .ok (.aload_n 0, 1) := by decide +kernel
theorem dX12_comesTo_329 : decode cX12_comesTo 329 = .ok (.iload_n 1, 1) := by decide +kernel
theorem dX12_comesTo_330 : decode cX12_comesTo 330 = .ok (.iload_n 2, 1) := by decide +kernel
theorem dX12_comesTo_331 : decode cX12_comesTo 331 = .ok (.invokevirtual 278, 3) := by decide +kernel
theorem dX12_comesTo_334 : decode cX12_comesTo 334 = .ok (.ireturn, 1) := by decide +kernel
theorem dX12_comesTo_335 : decode cX12_comesTo 335 = .ok (.aload_n 0, 1) := by decide +kernel
theorem dX12_comesTo_336 : decode cX12_comesTo 336 = .ok (.iload_n 2, 1) := by decide +kernel
theorem dX12_comesTo_337 : decode cX12_comesTo 337 = .ok (.invokevirtual 219, 3) := by decide +kernel
theorem dX12_comesTo_340 : decode cX12_comesTo 340 = .ok (.iconst 1, 1) := by decide +kernel
theorem dX12_comesTo_341 : decode cX12_comesTo 341 = .ok (.ireturn, 1) := by decide +kernel
theorem dX12_closes_0 : decode cX12_closes 0 = .ok (.aload_n 0, 1) := by decide +kernel
theorem dX12_closes_1 : decode cX12_closes 1 = .ok (.getfield 14, 3) := by decide +kernel
theorem dX12_closes_4 : decode cX12_closes 4 = .ok (.bipush 7, 2) := by decide +kernel
theorem dX12_closes_6 : decode cX12_closes 6 = .ok (.iaload, 1) := by decide +kernel
theorem dX12_closes_7 : decode cX12_closes 7 = .ok (.istore_n 1, 1) := by decide +kernel
theorem dX12_closes_8 : decode cX12_closes 8 = .ok (.aload_n 0, 1) := by decide +kernel
theorem dX12_closes_9 : decode cX12_closes 9 = .ok (.getfield 14, 3) := by decide +kernel
theorem dX12_closes_12 : decode cX12_closes 12 = .ok (.bipush 7, 2) := by decide +kernel
theorem dX12_closes_14 : decode cX12_closes 14 = .ok (.aload_n 0, 1) := by decide +kernel
theorem dX12_closes_15 : decode cX12_closes 15 = .ok (.iload_n 1, 1) := by decide +kernel
theorem dX12_closes_16 : decode cX12_closes 16 = .ok (.iconst 5, 1) := by decide +kernel
theorem dX12_closes_17 : decode cX12_closes 17 = .ok (.invokevirtual 213, 3) := by decide +kernel
theorem dX12_closes_20 : decode cX12_closes 20 = .ok (.iastore, 1) := by decide +kernel
theorem dX12_closes_21 : decode cX12_closes 21 = .ok (.aload_n 0, 1) := by decide +kernel
theorem dX12_closes_22 : decode cX12_closes 22 = .ok (.iload_n 1, 1) := by decide +kernel
theorem dX12_closes_23 : decode cX12_closes 23 = .ok (.aload_n 0, 1) := by decide +kernel
theorem dX12_closes_24 : decode cX12_closes 24 = .ok (.getfield 14, 3) := by decide +kernel
theorem dX12_closes_27 : decode cX12_closes 27 = .ok (.bipush 20, 2) := by decide +kernel
theorem dX12_closes_29 : decode cX12_closes 29 = .ok (.iaload, 1) := by decide +kernel
theorem dX12_closes_30 : decode cX12_closes 30 = .ok (.invokevirtual 281, 3) := by decide +kernel
theorem dX12_closes_33 : decode cX12_closes 33 = .ok (.istore_n 2, 1) := by decide +kernel
theorem dX12_closes_34 : decode cX12_closes 34 = .ok (.aload_n 0, 1) := by decide +kernel
theorem dX12_closes_35 : decode cX12_closes 35 = .ok (.getfield 14, 3) := by decide +kernel
theorem dX12_closes_38 : decode cX12_closes 38 = .ok (.bipush 7, 2) := by decide +kernel
theorem dX12_closes_40 : decode cX12_closes 40 = .ok (.iload_n 2, 1) := by decide +kernel
theorem dX12_closes_41 : decode cX12_closes 41 = .ok (.ifCond .eq 13, 3) := by decide +kernel
theorem dX12_closes_44 : decode cX12_closes 44 = .ok (.aload_n 0, 1) := by decide +kernel
theorem dX12_closes_45 : decode cX12_closes 45 = .ok (.getfield 14, 3) := by decide +kernel
theorem dX12_closes_48 : decode cX12_closes 48 = .ok (.bipush 7, 2) := by decide +kernel
theorem dX12_closes_50 : decode cX12_closes 50 = .ok (.iaload, 1) := by decide +kernel
theorem dX12_closes_51 : decode cX12_closes 51 = .ok (.goto 4, 3) := by decide +kernel
theorem dX12_closes_54 : decode cX12_closes 54 = .ok (.iload_n 1, 1) := by decide +kernel
theorem dX12_closes_55 : decode cX12_closes 55 = .ok (.iastore, 1) := by decide +kernel
theorem dX12_closes_56 : decode cX12_closes 56 = .ok (.iload_n 2, 1) := by decide +kernel
theorem dX12_closes_57 : decode cX12_closes 57 = .ok (.ireturn, 1) := by decide +kernel
theorem dX12_step_0 : decode cX12_step 0 = .ok (.aload_n 0, 1) := by decide +kernel
theorem dX12_step_1 : decode cX12_step 1 = .ok (.getfield 14, 3) := by decide +kernel
theorem dX12_step_4 : decode cX12_step 4 = .ok (.bipush 16, 2) := by decide +kernel
theorem dX12_step_6 : decode cX12_step 6 = .ok (.iaload, 1) := by decide +kernel
theorem dX12_step_7 : decode cX12_step 7 = .ok (.iconst 2, 1) := by decide +kernel
theorem dX12_step_8 : decode cX12_step 8 = .ok (.if_icmp .ne 10, 3) := by decide +kernel
theorem dX12_step_11 : decode cX12_step 11 = .ok (.aload_n 0, 1) := by decide +kernel
theorem dX12_step_12 : decode cX12_step 12 = .ok (.invokevirtual 284, 3) := by decide +kernel
theorem dX12_step_15 : decode cX12_step 15 = .ok (.goto 7, 3) := by decide +kernel
theorem dX12_step_18 : decode cX12_step 18 = .ok (.aload_n 0, 1) := by decide +kernel
theorem dX12_step_19 : decode cX12_step 19 = .ok (.invokevirtual 287, 3) := by decide +kernel
theorem dX12_step_22 : decode cX12_step 22 = .ok (.istore_n 1, 1) := by decide +kernel
theorem dX12_step_23 : decode cX12_step 23 = .ok (.iload_n 1, 1) := by decide +kernel
theorem dX12_step_24 : decode cX12_step 24 = .ok (.ifCond .ne 19, 3) := by decide +kernel
theorem dX12_step_27 : decode cX12_step 27 = .ok (.aload_n 0, 1) := by decide +kernel
theorem dX12_step_28 : decode cX12_step 28 = .ok (.getfield 14, 3) := by decide +kernel
theorem dX12_step_31 : decode cX12_step 31 = .ok (.iconst 5, 1) := by decide +kernel
theorem dX12_step_32 : decode cX12_step 32 = .ok (.iconst 4, 1) := by decide +kernel
theorem dX12_step_33 : decode cX12_step 33 = .ok (.iastore, 1) := by decide +kernel
theorem dX12_step_34 : decode cX12_step 34 = .ok (.aload_n 0, 1) := by decide +kernel
theorem dX12_step_35 : decode cX12_step 35 = .ok (.getfield 14, 3) := by decide +kernel
theorem dX12_step_38 : decode cX12_step 38 = .ok (.bipush 16, 2) := by decide +kernel
theorem dX12_step_40 : decode cX12_step 40 = .ok (.iconst 0, 1) := by decide +kernel
theorem dX12_step_41 : decode cX12_step 41 = .ok (.iastore, 1) := by decide +kernel
theorem dX12_step_42 : decode cX12_step 42 = .ok (.return_, 1) := by decide +kernel
theorem dX12_step_43 : decode cX12_step 43 = .ok (.aload_n 0, 1) := by decide +kernel
theorem dX12_step_44 : decode cX12_step 44 = .ok (.getfield 14, 3) := by decide +kernel
theorem dX12_step_47 : decode cX12_step 47 = .ok (.bipush 6, 2) := by decide +kernel
theorem dX12_step_49 : decode cX12_step 49 = .ok (.dup2, 1) := by decide +kernel
theorem dX12_step_50 : decode cX12_step 50 = .ok (.iaload, 1) := by decide +kernel
theorem dX12_step_51 : decode cX12_step 51 = .ok (.iconst 1, 1) := by decide +kernel
theorem dX12_step_52 : decode cX12_step 52 = .ok (.iadd, 1) := by decide +kernel
theorem dX12_step_53 : decode cX12_step 53 = .ok (.iastore, 1) := by decide +kernel
theorem dX12_step_54 : decode cX12_step 54 = .ok (.aload_n 0, 1) := by decide +kernel
theorem dX12_step_55 : decode cX12_step 55 = .ok (.invokevirtual 290, 3) := by decide +kernel
theorem dX12_step_58 : decode cX12_step 58 = .ok (.return_, 1) := by decide +kernel
theorem dX12_checkSteps_0 : decode cX12_checkSteps 0 = .ok (.aload_n 0, 1) := by decide +kernel
theorem dX12_checkSteps_1 : decode cX12_checkSteps 1 = .ok (.getfield 14, 3) := by decide +kernel
theorem dX12_checkSteps_4 : decode cX12_checkSteps 4 = .ok (.iconst 5, 1) := by decide +kernel
theorem dX12_checkSteps_5 : decode cX12_checkSteps 5 = .ok (.iaload, 1) := by decide +kernel
theorem dX12_checkSteps_6 : decode cX12_checkSteps 6 = .ok (.iconst 1, 1) := by decide +kernel
theorem dX12_checkSteps_7 : decode cX12_checkSteps 7 = .ok (.if_icmp .ne 31, 3) := by decide +kernel
theorem dX12_checkSteps_10 : decode cX12_checkSteps 10 = .ok (.aload_n 0, 1) := by decide +kernel
theorem dX12_checkSteps_11 : decode cX12_checkSteps 11 = .ok (.getfield 14, 3) := by decide +kernel
theorem dX12_checkSteps_14 : decode cX12_checkSteps 14 = .ok (.bipush 6, 2) := by decide +kernel
theorem dX12_checkSteps_16 : decode cX12_checkSteps 16 = .ok (.iaload, 1) := by decide +kernel
theorem dX12_checkSteps_17 : decode cX12_checkSteps 17 = .ok (.sipush 1000, 3) := by decide +kernel
theorem dX12_checkSteps_20 : decode cX12_checkSteps 20 = .ok (.if_icmp .ne 18, 3) := by decide +kernel
theorem dX12_checkSteps_23 : decode cX12_checkSteps 23 = .ok (.aload_n 0, 1) := by decide +kernel
theorem dX12_checkSteps_24 : decode cX12_checkSteps 24 = .ok (.getfield 14, 3) := by decide +kernel
theorem dX12_checkSteps_27 : decode cX12_checkSteps 27 = .ok (.iconst 5, 1) := by decide +kernel
theorem dX12_checkSteps_28 : decode cX12_checkSteps 28 = .ok (.iconst 5, 1) := by decide +kernel
theorem dX12_checkSteps_29 : decode cX12_checkSteps 29 = .ok (.iastore, 1) := by decide +kernel
theorem dX12_checkSteps_30 : decode cX12_checkSteps 30 = .ok (.aload_n 0, 1) := by decide +kernel
theorem dX12_checkSteps_31 : decode cX12_checkSteps 31 = .ok (.getfield 14, 3) := by decide +kernel
theorem dX12_checkSteps_34 : decode cX12_checkSteps 34 = .ok (.bipush 16, 2) := by decide +kernel
theorem dX12_checkSteps_36 : decode cX12_checkSteps 36 = .ok (.iconst 0, 1) := by decide +kernel
theorem dX12_checkSteps_37 : decode cX12_checkSteps 37 = .ok (.iastore, 1) := by decide +kernel
theorem dX12_checkSteps_38 : decode cX12_checkSteps 38 = .ok (.return_, 1) := by decide +kernel
theorem dX12_run_0 : decode cX12_run 0 = .ok (.iload_n 1, 1) := by decide +kernel
theorem dX12_run_1 : decode cX12_run 1 = .ok (.iconst 1, 1) := by decide +kernel
theorem dX12_run_2 : decode cX12_run 2 = .ok (.sipush 200, 3) := by decide +kernel
theorem dX12_run_5 : decode cX12_run 5 = .ok (.invokestatic 74, 3) := by decide +kernel
theorem dX12_run_8 : decode cX12_run 8 = .ok (.ifCond .ne 5, 3) := by decide +kernel
theorem dX12_run_11 : decode cX12_run 11 = .ok (.iconst (-1), 1) := by decide +kernel
theorem dX12_run_12 : decode cX12_run 12 = .ok (.ireturn, 1) := by decide +kernel
theorem dX12_run_13 : decode cX12_run 13 = .ok (.aload_n 0, 1) := by decide +kernel
theorem dX12_run_14 : decode cX12_run 14 = .ok (.getfield 14, 3) := by decide +kernel
theorem dX12_run_17 : decode cX12_run 17 = .ok (.iconst 5, 1) := by decide +kernel
theorem dX12_run_18 : decode cX12_run 18 = .ok (.iaload, 1) := by decide +kernel
theorem dX12_run_19 : decode cX12_run 19 = .ok (.iconst 1, 1) := by decide +kernel
theorem dX12_run_20 : decode cX12_run 20 = .ok (.if_icmp .eq 6, 3) := by decide +kernel
theorem dX12_run_23 : decode cX12_run 23 = .ok (.bipush (-2), 2) := by decide +kernel
theorem dX12_run_25 : decode cX12_run 25 = .ok (.ireturn, 1) := by decide +kernel
theorem dX12_run_26 : decode cX12_run 26 = .ok (.iconst 0, 1) := by decide +kernel
theorem dX12_run_27 : decode cX12_run 27 = .ok (.istore_n 2, 1) := by decide +kernel
theorem dX12_run_28 : decode cX12_run 28 = .ok (.iload_n 2, 1) := by decide +kernel
theorem dX12_run_29 : decode cX12_run 29 = .ok (.iload_n 1, 1) := by decide +kernel
theorem dX12_run_30 : decode cX12_run 30 = .ok (.if_icmp .ge 23, 3) := by decide +kernel
theorem dX12_run_33 : decode cX12_run 33 = .ok (.aload_n 0, 1) := by decide +kernel
theorem dX12_run_34 : decode cX12_run 34 = .ok (.getfield 14, 3) := by decide +kernel
theorem dX12_run_37 : decode cX12_run 37 = .ok (.iconst 5, 1) := by decide +kernel
theorem dX12_run_38 : decode cX12_run 38 = .ok (.iaload, 1) := by decide +kernel
theorem dX12_run_39 : decode cX12_run 39 = .ok (.iconst 1, 1) := by decide +kernel
theorem dX12_run_40 : decode cX12_run 40 = .ok (.if_icmp .ne 13, 3) := by decide +kernel
theorem dX12_run_43 : decode cX12_run 43 = .ok (.aload_n 0, 1) := by decide +kernel
theorem dX12_run_44 : decode cX12_run 44 = .ok (.invokevirtual 293, 3) := by decide +kernel
theorem dX12_run_47 : decode cX12_run 47 = .ok (.iinc 2 1, 3) := by decide +kernel
theorem dX12_run_50 : decode cX12_run 50 = .ok (.goto (-22), 3) := by decide +kernel
theorem dX12_run_53 : decode cX12_run 53 = .ok (.aload_n 0, 1) := by decide +kernel
theorem dX12_run_54 : decode cX12_run 54 = .ok (.getfield 14, 3) := by decide +kernel
theorem dX12_run_57 : decode cX12_run 57 = .ok (.iconst 5, 1) := by decide +kernel
theorem dX12_run_58 : decode cX12_run 58 = .ok (.iaload, 1) := by decide +kernel
theorem dX12_run_59 : decode cX12_run 59 = .ok (.ireturn, 1) := by decide +kernel
theorem dX12_answer_0 : decode cX12_answer 0 = .ok (.aload_n 0, 1) := by decide +kernel
theorem dX12_answer_1 : decode cX12_answer 1 = .ok (.getfield 14, 3) := by decide +kernel
theorem dX12_answer_4 : decode cX12_answer 4 = .ok (.iconst 5, 1) := by decide +kernel
theorem dX12_answer_5 : decode cX12_answer 5 = .ok (.iaload, 1) := by decide +kernel
theorem dX12_answer_6 : decode cX12_answer 6 = .ok (.iconst 3, 1) := by decide +kernel
theorem dX12_answer_7 : decode cX12_answer 7 = .ok (.if_icmp .eq 6, 3) := by decide +kernel
theorem dX12_answer_10 : decode cX12_answer 10 = .ok (.bipush (-2), 2) := by decide +kernel
theorem dX12_answer_12 : decode cX12_answer 12 = .ok (.ireturn, 1) := by decide +kernel
theorem dX12_answer_13 : decode cX12_answer 13 = .ok (.aload_n 0, 1) := by decide +kernel
theorem dX12_answer_14 : decode cX12_answer 14 = .ok (.getfield 14, 3) := by decide +kernel
theorem dX12_answer_17 : decode cX12_answer 17 = .ok (.bipush 15, 2) := by decide +kernel
theorem dX12_answer_19 : decode cX12_answer 19 = .ok (.bipush (-9), 2) := by decide +kernel
theorem dX12_answer_21 : decode cX12_answer 21 = .ok (.iastore, 1) := by decide +kernel
theorem dX12_answer_22 : decode cX12_answer 22 = .ok (.aload_n 0, 1) := by decide +kernel
theorem dX12_answer_23 : decode cX12_answer 23 = .ok (.iload_n 1, 1) := by decide +kernel
theorem dX12_answer_24 : decode cX12_answer 24 = .ok (.invokevirtual 219, 3) := by decide +kernel
theorem dX12_answer_27 : decode cX12_answer 27 = .ok (.aload_n 0, 1) := by decide +kernel
theorem dX12_answer_28 : decode cX12_answer 28 = .ok (.invokevirtual 290, 3) := by decide +kernel
theorem dX12_answer_31 : decode cX12_answer 31 = .ok (.aload_n 0, 1) := by decide +kernel
theorem dX12_answer_32 : decode cX12_answer 32 = .ok (.invokevirtual 216, 3) := by decide +kernel
theorem dX12_answer_35 : decode cX12_answer 35 = .ok (.ireturn, 1) := by decide +kernel
theorem dX12_drop_0 : decode cX12_drop 0 = .ok (.aload_n 0, 1) := by decide +kernel
theorem dX12_drop_1 : decode cX12_drop 1 = .ok (.getfield 14, 3) := by decide +kernel
theorem dX12_drop_4 : decode cX12_drop 4 = .ok (.iconst 5, 1) := by decide +kernel
theorem dX12_drop_5 : decode cX12_drop 5 = .ok (.iaload, 1) := by decide +kernel
theorem dX12_drop_6 : decode cX12_drop 6 = .ok (.iconst 3, 1) := by decide +kernel
theorem dX12_drop_7 : decode cX12_drop 7 = .ok (.if_icmp .eq 6, 3) := by decide +kernel
theorem dX12_drop_10 : decode cX12_drop 10 = .ok (.bipush (-2), 2) := by decide +kernel
theorem dX12_drop_12 : decode cX12_drop 12 = .ok (.ireturn, 1) := by decide +kernel
theorem dX12_drop_13 : decode cX12_drop 13 = .ok (.aload_n 0, 1) := by decide +kernel
theorem dX12_drop_14 : decode cX12_drop 14 = .ok (.invokevirtual 216, 3) := by decide +kernel
theorem dX12_drop_17 : decode cX12_drop 17 = .ok (.istore_n 2, 1) := by decide +kernel
theorem dX12_drop_18 : decode cX12_drop 18 = .ok (.aload_n 0, 1) := by decide +kernel
theorem dX12_drop_19 : decode cX12_drop 19 = .ok (.aload_n 0, 1) := by decide +kernel
theorem dX12_drop_20 : decode cX12_drop 20 = .ok (.getfield 14, 3) := by decide +kernel
theorem dX12_drop_23 : decode cX12_drop 23 = .ok (.bipush 7, 2) := by decide +kernel
theorem dX12_drop_25 : decode cX12_drop 25 = .ok (.iaload, 1) := by decide +kernel
theorem dX12_drop_26 : decode cX12_drop 26 = .ok (.iload_n 2, 1) := by decide +kernel
theorem dX12_drop_27 : decode cX12_drop 27 = .ok (.invokevirtual 254, 3) := by decide +kernel
theorem dX12_drop_30 : decode cX12_drop 30 = .ok (.istore_n 3, 1) := by decide +kernel
theorem dX12_drop_31 : decode cX12_drop 31 = .ok (.aload_n 0, 1) := by decide +kernel
theorem dX12_drop_32 : decode cX12_drop 32 = .ok (.getfield 14, 3) := by decide +kernel
theorem dX12_drop_35 : decode cX12_drop 35 = .ok (.bipush 15, 2) := by decide +kernel
theorem dX12_drop_37 : decode cX12_drop 37 = .ok (.bipush (-9), 2) := by decide +kernel
theorem dX12_drop_39 : decode cX12_drop 39 = .ok (.iastore, 1) := by decide +kernel
theorem dX12_drop_40 : decode cX12_drop 40 = .ok (.aload_n 0, 1) := by decide +kernel
theorem dX12_drop_41 : decode cX12_drop 41 = .ok (.getfield 14, 3) := by decide +kernel
theorem dX12_drop_44 : decode cX12_drop 44 = .ok (.bipush 7, 2) := by decide +kernel
theorem dX12_drop_46 : decode cX12_drop 46 = .ok (.bipush (-9), 2) := by decide +kernel
theorem dX12_drop_48 : decode cX12_drop 48 = .ok (.iastore, 1) := by decide +kernel
theorem dX12_drop_49 : decode cX12_drop 49 = .ok (.aload_n 0, 1) := by decide +kernel
theorem dX12_drop_50 : decode cX12_drop 50 = .ok (.bipush 14, 2) := by decide +kernel
theorem dX12_drop_52 : decode cX12_drop 52 = .ok (.bipush (-9), 2) := by decide +kernel
theorem dX12_drop_54 : decode cX12_drop 54 = .ok (.bipush (-9), 2) := by decide +kernel
theorem dX12_drop_56 : decode cX12_drop 56 = .ok (.bipush (-9), 2) := by decide +kernel
theorem dX12_drop_58 : decode cX12_drop 58 = .ok (.iload_n 3, 1) := by decide +kernel
theorem dX12_drop_59 : decode cX12_drop 59 = .ok (.invokevirtual 228, 3) := by decide +kernel
theorem dX12_drop_62 : decode cX12_drop 62 = .ok (.aload_n 0, 1) := by decide +kernel
theorem dX12_drop_63 : decode cX12_drop 63 = .ok (.iload_n 1, 1) := by decide +kernel
theorem dX12_drop_64 : decode cX12_drop 64 = .ok (.invokevirtual 219, 3) := by decide +kernel
theorem dX12_drop_67 : decode cX12_drop 67 = .ok (.aload_n 0, 1) := by decide +kernel
theorem dX12_drop_68 : decode cX12_drop 68 = .ok (.invokevirtual 290, 3) := by decide +kernel
theorem dX12_drop_71 : decode cX12_drop 71 = .ok (.iload_n 2, 1) := by decide +kernel
theorem dX12_drop_72 : decode cX12_drop 72 = .ok (.ireturn, 1) := by decide +kernel
theorem dX12_defined_0 : decode cX12_defined 0 = .ok (.iconst 0, 1) := by decide +kernel
theorem dX12_defined_1 : decode cX12_defined 1 = .ok (.istore_n 1, 1) := by decide +kernel
theorem dX12_defined_2 : decode cX12_defined 2 = .ok (.iconst 0, 1) := by decide +kernel
theorem dX12_defined_3 : decode cX12_defined 3 = .ok (.istore_n 2, 1) := by decide +kernel
theorem dX12_defined_4 : decode cX12_defined 4 = .ok (.iload_n 2, 1) := by decide +kernel
theorem dX12_defined_5 : decode cX12_defined 5 = .ok (.iconst 4, 1) := by decide +kernel
theorem dX12_defined_6 : decode cX12_defined 6 = .ok (.if_icmp .ge 30, 3) := by decide +kernel
theorem dX12_defined_9 : decode cX12_defined 9 = .ok (.iload_n 1, 1) := by decide +kernel
theorem dX12_defined_10 : decode cX12_defined 10 = .ok (.aload_n 0, 1) := by decide +kernel
theorem dX12_defined_11 : decode cX12_defined 11 = .ok (.getfield 14, 3) := by decide +kernel
theorem dX12_defined_14 : decode cX12_defined 14 = .ok (.iconst 1, 1) := by decide +kernel
theorem dX12_defined_15 : decode cX12_defined 15 = .ok (.iload_n 2, 1) := by decide +kernel
theorem dX12_defined_16 : decode cX12_defined 16 = .ok (.iadd, 1) := by decide +kernel
theorem dX12_defined_17 : decode cX12_defined 17 = .ok (.iaload, 1) := by decide +kernel
theorem dX12_defined_18 : decode cX12_defined 18 = .ok (.bipush (-9), 2) := by decide +kernel
theorem dX12_defined_20 : decode cX12_defined 20 = .ok (.if_icmp .eq 7, 3) := by decide +kernel
theorem dX12_defined_23 : decode cX12_defined 23 = .ok (.iconst 1, 1) := by decide +kernel
theorem dX12_defined_24 : decode cX12_defined 24 = .ok (.goto 4, 3) := by decide +kernel
theorem dX12_defined_27 : decode cX12_defined 27 = .ok (.iconst 0, 1) := by decide +kernel
theorem dX12_defined_28 : decode cX12_defined 28 = .ok (.iadd, 1) := by decide +kernel
theorem dX12_defined_29 : decode cX12_defined 29 = .ok (.istore_n 1, 1) := by decide +kernel
theorem dX12_defined_30 : decode cX12_defined 30 = .ok (.iinc 2 1, 3) := by decide +kernel
theorem dX12_defined_33 : decode cX12_defined 33 = .ok (.goto (-29), 3) := by decide +kernel
theorem dX12_defined_36 : decode cX12_defined 36 = .ok (.iload_n 1, 1) := by decide +kernel
theorem dX12_defined_37 : decode cX12_defined 37 = .ok (.ireturn, 1) := by decide +kernel
theorem dX12_told_0 : decode cX12_told 0 = .ok (.iload_n 1, 1) := by decide +kernel
theorem dX12_told_1 : decode cX12_told 1 = .ok (.tableswitch 161 0 12 #[67, 74, 82, 87, 95, 103, 111, 119, 127, 135, 143, 151, 156], 67) := by decide +kernel
theorem dX12_told_68 : decode cX12_told 68 = .ok (.aload_n 0, 1) := by decide +kernel
theorem dX12_told_69 : decode cX12_told 69 = .ok (.getfield 14, 3) := by decide +kernel
theorem dX12_told_72 : decode cX12_told 72 = .ok (.iconst 5, 1) := by decide +kernel
theorem dX12_told_73 : decode cX12_told 73 = .ok (.iaload, 1) := by decide +kernel
theorem dX12_told_74 : decode cX12_told 74 = .ok (.ireturn, 1) := by decide +kernel
theorem dX12_told_75 : decode cX12_told 75 = .ok (.aload_n 0, 1) := by decide +kernel
theorem dX12_told_76 : decode cX12_told 76 = .ok (.getfield 14, 3) := by decide +kernel
theorem dX12_told_79 : decode cX12_told 79 = .ok (.bipush 6, 2) := by decide +kernel
theorem dX12_told_81 : decode cX12_told 81 = .ok (.iaload, 1) := by decide +kernel
theorem dX12_told_82 : decode cX12_told 82 = .ok (.ireturn, 1) := by decide +kernel
theorem dX12_told_83 : decode cX12_told 83 = .ok (.aload_n 0, 1) := by decide +kernel
theorem dX12_told_84 : decode cX12_told 84 = .ok (.invokevirtual 216, 3) := by decide +kernel
theorem dX12_told_87 : decode cX12_told 87 = .ok (.ireturn, 1) := by decide +kernel
theorem dX12_told_88 : decode cX12_told 88 = .ok (.aload_n 0, 1) := by decide +kernel
theorem dX12_told_89 : decode cX12_told 89 = .ok (.getfield 14, 3) := by decide +kernel
theorem dX12_told_92 : decode cX12_told 92 = .ok (.bipush 8, 2) := by decide +kernel
theorem dX12_told_94 : decode cX12_told 94 = .ok (.iaload, 1) := by decide +kernel
theorem dX12_told_95 : decode cX12_told 95 = .ok (.ireturn, 1) := by decide +kernel
theorem dX12_told_96 : decode cX12_told 96 = .ok (.aload_n 0, 1) := by decide +kernel
theorem dX12_told_97 : decode cX12_told 97 = .ok (.getfield 14, 3) := by decide +kernel
theorem dX12_told_100 : decode cX12_told 100 = .ok (.bipush 9, 2) := by decide +kernel
theorem dX12_told_102 : decode cX12_told 102 = .ok (.iaload, 1) := by decide +kernel
theorem dX12_told_103 : decode cX12_told 103 = .ok (.ireturn, 1) := by decide +kernel
theorem dX12_told_104 : decode cX12_told 104 = .ok (.aload_n 0, 1) := by decide +kernel
theorem dX12_told_105 : decode cX12_told 105 = .ok (.getfield 14, 3) := by decide +kernel
theorem dX12_told_108 : decode cX12_told 108 = .ok (.bipush 10, 2) := by decide +kernel
theorem dX12_told_110 : decode cX12_told 110 = .ok (.iaload, 1) := by decide +kernel
theorem dX12_told_111 : decode cX12_told 111 = .ok (.ireturn, 1) := by decide +kernel
theorem dX12_told_112 : decode cX12_told 112 = .ok (.aload_n 0, 1) := by decide +kernel
theorem dX12_told_113 : decode cX12_told 113 = .ok (.getfield 14, 3) := by decide +kernel
theorem dX12_told_116 : decode cX12_told 116 = .ok (.bipush 11, 2) := by decide +kernel
theorem dX12_told_118 : decode cX12_told 118 = .ok (.iaload, 1) := by decide +kernel
theorem dX12_told_119 : decode cX12_told 119 = .ok (.ireturn, 1) := by decide +kernel
theorem dX12_told_120 : decode cX12_told 120 = .ok (.aload_n 0, 1) := by decide +kernel
theorem dX12_told_121 : decode cX12_told 121 = .ok (.getfield 14, 3) := by decide +kernel
theorem dX12_told_124 : decode cX12_told 124 = .ok (.bipush 12, 2) := by decide +kernel
theorem dX12_told_126 : decode cX12_told 126 = .ok (.iaload, 1) := by decide +kernel
theorem dX12_told_127 : decode cX12_told 127 = .ok (.ireturn, 1) := by decide +kernel
theorem dX12_told_128 : decode cX12_told 128 = .ok (.aload_n 0, 1) := by decide +kernel
theorem dX12_told_129 : decode cX12_told 129 = .ok (.getfield 14, 3) := by decide +kernel
theorem dX12_told_132 : decode cX12_told 132 = .ok (.bipush 13, 2) := by decide +kernel
theorem dX12_told_134 : decode cX12_told 134 = .ok (.iaload, 1) := by decide +kernel
theorem dX12_told_135 : decode cX12_told 135 = .ok (.ireturn, 1) := by decide +kernel
theorem dX12_told_136 : decode cX12_told 136 = .ok (.aload_n 0, 1) := by decide +kernel
theorem dX12_told_137 : decode cX12_told 137 = .ok (.getfield 14, 3) := by decide +kernel
theorem dX12_told_140 : decode cX12_told 140 = .ok (.bipush 14, 2) := by decide +kernel
theorem dX12_told_142 : decode cX12_told 142 = .ok (.iaload, 1) := by decide +kernel
theorem dX12_told_143 : decode cX12_told 143 = .ok (.ireturn, 1) := by decide +kernel
theorem dX12_told_144 : decode cX12_told 144 = .ok (.aload_n 0, 1) := by decide +kernel
theorem dX12_told_145 : decode cX12_told 145 = .ok (.getfield 14, 3) := by decide +kernel
theorem dX12_told_148 : decode cX12_told 148 = .ok (.bipush 15, 2) := by decide +kernel
theorem dX12_told_150 : decode cX12_told 150 = .ok (.iaload, 1) := by decide +kernel
theorem dX12_told_151 : decode cX12_told 151 = .ok (.ireturn, 1) := by decide +kernel
theorem dX12_told_152 : decode cX12_told 152 = .ok (.aload_n 0, 1) := by decide +kernel
theorem dX12_told_153 : decode cX12_told 153 = .ok (.getfield 78, 3) := by decide +kernel
theorem dX12_told_156 : decode cX12_told 156 = .ok (.ireturn, 1) := by decide +kernel
theorem dX12_told_157 : decode cX12_told 157 = .ok (.aload_n 0, 1) := by decide +kernel
theorem dX12_told_158 : decode cX12_told 158 = .ok (.invokevirtual 296, 3) := by decide +kernel
theorem dX12_told_161 : decode cX12_told 161 = .ok (.ireturn, 1) := by decide +kernel
theorem dX12_told_162 : decode cX12_told 162 = .ok (.iconst (-1), 1) := by decide +kernel
theorem dX12_told_163 : decode cX12_told 163 = .ok (.ireturn, 1) := by decide +kernel
theorem dX12_value_0 : decode cX12_value 0 = .ok (.aload_n 0, 1) := by decide +kernel
theorem dX12_value_1 : decode cX12_value 1 = .ok (.getfield 14, 3) := by decide +kernel
theorem dX12_value_4 : decode cX12_value 4 = .ok (.iconst 5, 1) := by decide +kernel
theorem dX12_value_5 : decode cX12_value 5 = .ok (.iaload, 1) := by decide +kernel
theorem dX12_value_6 : decode cX12_value 6 = .ok (.iconst 2, 1) := by decide +kernel
theorem dX12_value_7 : decode cX12_value 7 = .ok (.if_icmp .eq 34, 3) := by decide +kernel
theorem dX12_value_10 : decode cX12_value 10 = .ok (.aload_n 0, 1) := by decide +kernel
theorem dX12_value_11 : decode cX12_value 11 = .ok (.getfield 14, 3) := by decide +kernel
theorem dX12_value_14 : decode cX12_value 14 = .ok (.iconst 5, 1) := by decide +kernel
theorem dX12_value_15 : decode cX12_value 15 = .ok (.iaload, 1) := by decide +kernel
theorem dX12_value_16 : decode cX12_value 16 = .ok (.iconst 3, 1) := by decide +kernel
theorem dX12_value_17 : decode cX12_value 17 = .ok (.if_icmp .eq 24, 3) := by decide +kernel
theorem dX12_value_20 : decode cX12_value 20 = .ok (.aload_n 0, 1) := by decide +kernel
theorem dX12_value_21 : decode cX12_value 21 = .ok (.getfield 14, 3) := by decide +kernel
theorem dX12_value_24 : decode cX12_value 24 = .ok (.iconst 5, 1) := by decide +kernel
theorem dX12_value_25 : decode cX12_value 25 = .ok (.iaload, 1) := by decide +kernel
theorem dX12_value_26 : decode cX12_value 26 = .ok (.iconst 1, 1) := by decide +kernel
theorem dX12_value_27 : decode cX12_value 27 = .ok (.if_icmp .ne 18, 3) := by decide +kernel
theorem dX12_value_30 : decode cX12_value 30 = .ok (.aload_n 0, 1) := by decide +kernel
theorem dX12_value_31 : decode cX12_value 31 = .ok (.getfield 14, 3) := by decide +kernel
theorem dX12_value_34 : decode cX12_value 34 = .ok (.bipush 16, 2) := by decide +kernel
theorem dX12_value_36 : decode cX12_value 36 = .ok (.iaload, 1) := by decide +kernel
theorem dX12_value_37 : decode cX12_value 37 = .ok (.iconst 1, 1) := by decide +kernel
theorem dX12_value_38 : decode cX12_value 38 = .ok (.if_icmp .ne 7, 3) := by decide +kernel
theorem dX12_value_41 : decode cX12_value 41 = .ok (.iconst 1, 1) := by decide +kernel
theorem dX12_value_42 : decode cX12_value 42 = .ok (.goto 4, 3) := by decide +kernel
theorem dX12_value_45 : decode cX12_value 45 = .ok (.iconst 0, 1) := by decide +kernel
theorem dX12_value_46 : decode cX12_value 46 = .ok (.istore_n 1, 1) := by decide +kernel
theorem dX12_value_47 : decode cX12_value 47 = .ok (.iload_n 1, 1) := by decide +kernel
theorem dX12_value_48 : decode cX12_value 48 = .ok (.ifCond .eq 13, 3) := by decide +kernel
theorem dX12_value_51 : decode cX12_value 51 = .ok (.aload_n 0, 1) := by decide +kernel
theorem dX12_value_52 : decode cX12_value 52 = .ok (.getfield 14, 3) := by decide +kernel
theorem dX12_value_55 : decode cX12_value 55 = .ok (.bipush 20, 2) := by decide +kernel
theorem dX12_value_57 : decode cX12_value 57 = .ok (.iaload, 1) := by decide +kernel
theorem dX12_value_58 : decode cX12_value 58 = .ok (.goto 4, 3) := by decide +kernel
theorem dX12_value_61 : decode cX12_value 61 = .ok (.iconst 0, 1) := by decide +kernel
theorem dX12_value_62 : decode cX12_value 62 = .ok (.ireturn, 1) := by decide +kernel
theorem dX12_focus_0 : decode cX12_focus 0 = .ok (.aload_n 0, 1) := by decide +kernel
theorem dX12_focus_1 : decode cX12_focus 1 = .ok (.getfield 14, 3) := by decide +kernel
theorem dX12_focus_4 : decode cX12_focus 4 = .ok (.iconst 5, 1) := by decide +kernel
theorem dX12_focus_5 : decode cX12_focus 5 = .ok (.iaload, 1) := by decide +kernel
theorem dX12_focus_6 : decode cX12_focus 6 = .ok (.iconst 1, 1) := by decide +kernel
theorem dX12_focus_7 : decode cX12_focus 7 = .ok (.if_icmp .ne 13, 3) := by decide +kernel
theorem dX12_focus_10 : decode cX12_focus 10 = .ok (.aload_n 0, 1) := by decide +kernel
theorem dX12_focus_11 : decode cX12_focus 11 = .ok (.getfield 14, 3) := by decide +kernel
theorem dX12_focus_14 : decode cX12_focus 14 = .ok (.bipush 16, 2) := by decide +kernel
theorem dX12_focus_16 : decode cX12_focus 16 = .ok (.iaload, 1) := by decide +kernel
theorem dX12_focus_17 : decode cX12_focus 17 = .ok (.goto 4, 3) := by decide +kernel
theorem dX12_focus_20 : decode cX12_focus 20 = .ok (.iconst 0, 1) := by decide +kernel
theorem dX12_focus_21 : decode cX12_focus 21 = .ok (.ireturn, 1) := by decide +kernel
theorem dX12_trace_0 : decode cX12_trace 0 = .ok (.iload_n 1, 1) := by decide +kernel
theorem dX12_trace_1 : decode cX12_trace 1 = .ok (.ifCond .ge 5, 3) := by decide +kernel
theorem dX12_trace_4 : decode cX12_trace 4 = .ok (.iconst (-1), 1) := by decide +kernel
theorem dX12_trace_5 : decode cX12_trace 5 = .ok (.ireturn, 1) := by decide +kernel
theorem dX12_trace_6 : decode cX12_trace 6 = .ok (.iload_n 1, 1) := by decide +kernel
theorem dX12_trace_7 : decode cX12_trace 7 = .ok (.aload_n 0, 1) := by decide +kernel
theorem dX12_trace_8 : decode cX12_trace 8 = .ok (.getfield 14, 3) := by decide +kernel
theorem dX12_trace_11 : decode cX12_trace 11 = .ok (.bipush 9, 2) := by decide +kernel
theorem dX12_trace_13 : decode cX12_trace 13 = .ok (.iaload, 1) := by decide +kernel
theorem dX12_trace_14 : decode cX12_trace 14 = .ok (.if_icmp .ge 16, 3) := by decide +kernel
theorem dX12_trace_17 : decode cX12_trace 17 = .ok (.aload_n 0, 1) := by decide +kernel
theorem dX12_trace_18 : decode cX12_trace 18 = .ok (.getfield 14, 3) := by decide +kernel
theorem dX12_trace_21 : decode cX12_trace 21 = .ok (.sipush 8430, 3) := by decide +kernel
theorem dX12_trace_24 : decode cX12_trace 24 = .ok (.iload_n 1, 1) := by decide +kernel
theorem dX12_trace_25 : decode cX12_trace 25 = .ok (.iadd, 1) := by decide +kernel
theorem dX12_trace_26 : decode cX12_trace 26 = .ok (.iaload, 1) := by decide +kernel
theorem dX12_trace_27 : decode cX12_trace 27 = .ok (.goto 5, 3) := by decide +kernel
theorem dX12_trace_30 : decode cX12_trace 30 = .ok (.bipush (-9), 2) := by decide +kernel
theorem dX12_trace_32 : decode cX12_trace 32 = .ok (.ireturn, 1) := by decide +kernel
theorem dX12_performed_0 : decode cX12_performed 0 = .ok (.iload_n 1, 1) := by decide +kernel
theorem dX12_performed_1 : decode cX12_performed 1 = .ok (.iconst 0, 1) := by decide +kernel
theorem dX12_performed_2 : decode cX12_performed 2 = .ok (.iconst 5, 1) := by decide +kernel
theorem dX12_performed_3 : decode cX12_performed 3 = .ok (.invokestatic 74, 3) := by decide +kernel
theorem dX12_performed_6 : decode cX12_performed 6 = .ok (.ifCond .eq 15, 3) := by decide +kernel
theorem dX12_performed_9 : decode cX12_performed 9 = .ok (.aload_n 0, 1) := by decide +kernel
theorem dX12_performed_10 : decode cX12_performed 10 = .ok (.getfield 14, 3) := by decide +kernel
theorem dX12_performed_13 : decode cX12_performed 13 = .ok (.bipush 24, 2) := by decide +kernel
theorem dX12_performed_15 : decode cX12_performed 15 = .ok (.iload_n 1, 1) := by decide +kernel
theorem dX12_performed_16 : decode cX12_performed 16 = .ok (.iadd, 1) := by decide +kernel
theorem dX12_performed_17 : decode cX12_performed 17 = .ok (.iaload, 1) := by decide +kernel
theorem dX12_performed_18 : decode cX12_performed 18 = .ok (.goto 4, 3) := by decide +kernel
theorem dX12_performed_21 : decode cX12_performed 21 = .ok (.iconst (-1), 1) := by decide +kernel
theorem dX12_performed_22 : decode cX12_performed 22 = .ok (.ireturn, 1) := by decide +kernel
theorem dX12_clauses_0 : decode cX12_clauses 0 = .ok (.iconst 0, 1) := by decide +kernel
theorem dX12_clauses_1 : decode cX12_clauses 1 = .ok (.istore_n 2, 1) := by decide +kernel
theorem dX12_clauses_2 : decode cX12_clauses 2 = .ok (.iconst 0, 1) := by decide +kernel
theorem dX12_clauses_3 : decode cX12_clauses 3 = .ok (.istore_n 3, 1) := by decide +kernel
theorem dX12_clauses_4 : decode cX12_clauses 4 = .ok (.iload_n 3, 1) := by decide +kernel
theorem dX12_clauses_5 : decode cX12_clauses 5 = .ok (.bipush 6, 2) := by decide +kernel
theorem dX12_clauses_7 : decode cX12_clauses 7 = .ok (.if_icmp .ge 28, 3) := by decide +kernel
theorem dX12_clauses_10 : decode cX12_clauses 10 = .ok (.iload_n 2, 1) := by decide +kernel
theorem dX12_clauses_11 : decode cX12_clauses 11 = .ok (.aload_n 0, 1) := by decide +kernel
theorem dX12_clauses_12 : decode cX12_clauses 12 = .ok (.iload_n 1, 1) := by decide +kernel
theorem dX12_clauses_13 : decode cX12_clauses 13 = .ok (.iload_n 3, 1) := by decide +kernel
theorem dX12_clauses_14 : decode cX12_clauses 14 = .ok (.invokevirtual 131, 3) := by decide +kernel
theorem dX12_clauses_17 : decode cX12_clauses 17 = .ok (.bipush (-9), 2) := by decide +kernel
theorem dX12_clauses_19 : decode cX12_clauses 19 = .ok (.if_icmp .eq 7, 3) := by decide +kernel
theorem dX12_clauses_22 : decode cX12_clauses 22 = .ok (.iconst 1, 1) := by decide +kernel
theorem dX12_clauses_23 : decode cX12_clauses 23 = .ok (.goto 4, 3) := by decide +kernel
theorem dX12_clauses_26 : decode cX12_clauses 26 = .ok (.iconst 0, 1) := by decide +kernel
theorem dX12_clauses_27 : decode cX12_clauses 27 = .ok (.iadd, 1) := by decide +kernel
theorem dX12_clauses_28 : decode cX12_clauses 28 = .ok (.istore_n 2, 1) := by decide +kernel
theorem dX12_clauses_29 : decode cX12_clauses 29 = .ok (.iinc 3 1, 3) := by decide +kernel
theorem dX12_clauses_32 : decode cX12_clauses 32 = .ok (.goto (-28), 3) := by decide +kernel
theorem dX12_clauses_35 : decode cX12_clauses 35 = .ok (.iload_n 2, 1) := by decide +kernel
theorem dX12_clauses_36 : decode cX12_clauses 36 = .ok (.ireturn, 1) := by decide +kernel
theorem dX12_property_0 : decode cX12_property 0 = .ok (.aload_n 0, 1) := by decide +kernel
theorem dX12_property_1 : decode cX12_property 1 = .ok (.iload_n 1, 1) := by decide +kernel
theorem dX12_property_2 : decode cX12_property 2 = .ok (.iconst 0, 1) := by decide +kernel
theorem dX12_property_3 : decode cX12_property 3 = .ok (.invokevirtual 213, 3) := by decide +kernel
theorem dX12_property_6 : decode cX12_property 6 = .ok (.tableswitch 122 2 14 #[66, 122, 122, 122, 122, 73, 73, 84, 73, 100, 111, 66, 100], 66) := by decide +kernel
theorem dX12_property_72 : decode cX12_property 72 = .ok (.aload_n 0, 1) := by decide +kernel
theorem dX12_property_73 : decode cX12_property 73 = .ok (.iload_n 1, 1) := by decide +kernel
theorem dX12_property_74 : decode cX12_property 74 = .ok (.iconst 4, 1) := by decide +kernel
theorem dX12_property_75 : decode cX12_property 75 = .ok (.invokevirtual 213, 3) := by decide +kernel
theorem dX12_property_78 : decode cX12_property 78 = .ok (.ireturn, 1) := by decide +kernel
theorem dX12_property_79 : decode cX12_property 79 = .ok (.aload_n 0, 1) := by decide +kernel
theorem dX12_property_80 : decode cX12_property 80 = .ok (.aload_n 0, 1) := by decide +kernel
theorem dX12_property_81 : decode cX12_property 81 = .ok (.iload_n 1, 1) := by decide +kernel
theorem dX12_property_82 : decode cX12_property 82 = .ok (.iconst 1, 1) := by decide +kernel
theorem dX12_property_83 : decode cX12_property 83 = .ok (.invokevirtual 213, 3) := by decide +kernel
theorem dX12_property_86 : decode cX12_property 86 = .ok (.invokevirtual 137, 3) := by decide +kernel
theorem dX12_property_89 : decode cX12_property 89 = .ok (.ireturn, 1) := by decide +kernel
theorem dX12_property_90 : decode cX12_property 90 = .ok (.aload_n 0, 1) := by decide +kernel
theorem dX12_property_91 : decode cX12_property 91 = .ok (.getfield 14, 3) := by decide +kernel
theorem dX12_property_94 : decode cX12_property 94 = .ok (.sipush 7230, 3) := by decide +kernel
theorem dX12_property_97 : decode cX12_property 97 = .ok (.aload_n 0, 1) := by decide +kernel
theorem dX12_property_98 : decode cX12_property 98 = .ok (.iload_n 1, 1) := by decide +kernel
theorem dX12_property_99 : decode cX12_property 99 = .ok (.iconst 4, 1) := by decide +kernel
theorem dX12_property_100 : decode cX12_property 100 = .ok (.invokevirtual 213, 3) := by decide +kernel
theorem dX12_property_103 : decode cX12_property 103 = .ok (.iadd, 1) := by decide +kernel
theorem dX12_property_104 : decode cX12_property 104 = .ok (.iaload, 1) := by decide +kernel
theorem dX12_property_105 : decode cX12_property 105 = .ok (.ireturn, 1) := by decide +kernel
theorem dX12_property_106 : decode cX12_property 106 = .ok (.aload_n 0, 1) := by decide +kernel
theorem dX12_property_107 : decode cX12_property 107 = .ok (.aload_n 0, 1) := by decide +kernel
theorem dX12_property_108 : decode cX12_property 108 = .ok (.iload_n 1, 1) := by decide +kernel
theorem dX12_property_109 : decode cX12_property 109 = .ok (.iconst 4, 1) := by decide +kernel
theorem dX12_property_110 : decode cX12_property 110 = .ok (.invokevirtual 213, 3) := by decide +kernel
theorem dX12_property_113 : decode cX12_property 113 = .ok (.invokevirtual 232, 3) := by decide +kernel
theorem dX12_property_116 : decode cX12_property 116 = .ok (.ireturn, 1) := by decide +kernel
theorem dX12_property_117 : decode cX12_property 117 = .ok (.aload_n 0, 1) := by decide +kernel
theorem dX12_property_118 : decode cX12_property 118 = .ok (.aload_n 0, 1) := by decide +kernel
theorem dX12_property_119 : decode cX12_property 119 = .ok (.iload_n 1, 1) := by decide +kernel
theorem dX12_property_120 : decode cX12_property 120 = .ok (.iconst 1, 1) := by decide +kernel
theorem dX12_property_121 : decode cX12_property 121 = .ok (.invokevirtual 213, 3) := by decide +kernel
theorem dX12_property_124 : decode cX12_property 124 = .ok (.invokevirtual 299, 3) := by decide +kernel
theorem dX12_property_127 : decode cX12_property 127 = .ok (.ireturn, 1) := by decide +kernel
theorem dX12_property_128 : decode cX12_property 128 = .ok (.bipush (-9), 2) := by decide +kernel
theorem dX12_property_130 : decode cX12_property 130 = .ok (.ireturn, 1) := by decide +kernel
theorem dX12_frame_0 : decode cX12_frame 0 = .ok (.iload_n 1, 1) := by decide +kernel
theorem dX12_frame_1 : decode cX12_frame 1 = .ok (.iconst 0, 1) := by decide +kernel
theorem dX12_frame_2 : decode cX12_frame 2 = .ok (.aload_n 0, 1) := by decide +kernel
theorem dX12_frame_3 : decode cX12_frame 3 = .ok (.invokevirtual 216, 3) := by decide +kernel
theorem dX12_frame_6 : decode cX12_frame 6 = .ok (.iconst 1, 1) := by decide +kernel
theorem dX12_frame_7 : decode cX12_frame 7 = .ok (.isub, 1) := by decide +kernel
theorem dX12_frame_8 : decode cX12_frame 8 = .ok (.invokestatic 74, 3) := by decide +kernel
theorem dX12_frame_11 : decode cX12_frame 11 = .ok (.ifCond .eq 12, 3) := by decide +kernel
theorem dX12_frame_14 : decode cX12_frame 14 = .ok (.iload_n 2, 1) := by decide +kernel
theorem dX12_frame_15 : decode cX12_frame 15 = .ok (.iconst 0, 1) := by decide +kernel
theorem dX12_frame_16 : decode cX12_frame 16 = .ok (.iconst 1, 1) := by decide +kernel
theorem dX12_frame_17 : decode cX12_frame 17 = .ok (.invokestatic 74, 3) := by decide +kernel
theorem dX12_frame_20 : decode cX12_frame 20 = .ok (.ifCond .ne 5, 3) := by decide +kernel
theorem dX12_frame_23 : decode cX12_frame 23 = .ok (.iconst (-1), 1) := by decide +kernel
theorem dX12_frame_24 : decode cX12_frame 24 = .ok (.ireturn, 1) := by decide +kernel
theorem dX12_frame_25 : decode cX12_frame 25 = .ok (.aload_n 0, 1) := by decide +kernel
theorem dX12_frame_26 : decode cX12_frame 26 = .ok (.getfield 14, 3) := by decide +kernel
theorem dX12_frame_29 : decode cX12_frame 29 = .ok (.bipush 7, 2) := by decide +kernel
theorem dX12_frame_31 : decode cX12_frame 31 = .ok (.iaload, 1) := by decide +kernel
theorem dX12_frame_32 : decode cX12_frame 32 = .ok (.istore_n 3, 1) := by decide +kernel
theorem dX12_frame_33 : decode cX12_frame 33 = .ok (.iconst 0, 1) := by decide +kernel
theorem dX12_frame_34 : decode cX12_frame 34 = .ok (.istore 4, 2) := by decide +kernel
theorem dX12_frame_36 : decode cX12_frame 36 = .ok (.iload 4, 2) := by decide +kernel
theorem dX12_frame_38 : decode cX12_frame 38 = .ok (.iload_n 1, 1) := by decide +kernel
theorem dX12_frame_39 : decode cX12_frame 39 = .ok (.if_icmp .ge 16, 3) := by decide +kernel
theorem dX12_frame_42 : decode cX12_frame 42 = .ok (.aload_n 0, 1) := by decide +kernel
theorem dX12_frame_43 : decode cX12_frame 43 = .ok (.iload_n 3, 1) := by decide +kernel
theorem dX12_frame_44 : decode cX12_frame 44 = .ok (.iconst 5, 1) := by decide +kernel
theorem dX12_frame_45 : decode cX12_frame 45 = .ok (.invokevirtual 213, 3) := by decide +kernel
theorem dX12_frame_48 : decode cX12_frame 48 = .ok (.istore_n 3, 1) := by decide +kernel
theorem dX12_frame_49 : decode cX12_frame 49 = .ok (.iinc 4 1, 3) := by decide +kernel
theorem dX12_frame_52 : decode cX12_frame 52 = .ok (.goto (-16), 3) := by decide +kernel
theorem dX12_frame_55 : decode cX12_frame 55 = .ok (.iload_n 2, 1) := by decide +kernel
theorem dX12_frame_56 : decode cX12_frame 56 = .ok (.ifCond .ne 12, 3) := by decide +kernel
theorem dX12_frame_59 : decode cX12_frame 59 = .ok (.aload_n 0, 1) := by decide +kernel
theorem dX12_frame_60 : decode cX12_frame 60 = .ok (.iload_n 3, 1) := by decide +kernel
theorem dX12_frame_61 : decode cX12_frame 61 = .ok (.iconst 0, 1) := by decide +kernel
theorem dX12_frame_62 : decode cX12_frame 62 = .ok (.invokevirtual 213, 3) := by decide +kernel
theorem dX12_frame_65 : decode cX12_frame 65 = .ok (.goto 8, 3) := by decide +kernel
theorem dX12_frame_68 : decode cX12_frame 68 = .ok (.aload_n 0, 1) := by decide +kernel
theorem dX12_frame_69 : decode cX12_frame 69 = .ok (.iload_n 3, 1) := by decide +kernel
theorem dX12_frame_70 : decode cX12_frame 70 = .ok (.invokevirtual 302, 3) := by decide +kernel
theorem dX12_frame_73 : decode cX12_frame 73 = .ok (.ireturn, 1) := by decide +kernel
theorem dX12_handler_0 : decode cX12_handler 0 = .ok (.iload_n 1, 1) := by decide +kernel
theorem dX12_handler_1 : decode cX12_handler 1 = .ok (.iconst 0, 1) := by decide +kernel
theorem dX12_handler_2 : decode cX12_handler 2 = .ok (.iconst 5, 1) := by decide +kernel
theorem dX12_handler_3 : decode cX12_handler 3 = .ok (.invokestatic 74, 3) := by decide +kernel
theorem dX12_handler_6 : decode cX12_handler 6 = .ok (.ifCond .ne 5, 3) := by decide +kernel
theorem dX12_handler_9 : decode cX12_handler 9 = .ok (.iconst (-1), 1) := by decide +kernel
theorem dX12_handler_10 : decode cX12_handler 10 = .ok (.ireturn, 1) := by decide +kernel
theorem dX12_handler_11 : decode cX12_handler 11 = .ok (.aload_n 0, 1) := by decide +kernel
theorem dX12_handler_12 : decode cX12_handler 12 = .ok (.iload_n 1, 1) := by decide +kernel
theorem dX12_handler_13 : decode cX12_handler 13 = .ok (.invokevirtual 251, 3) := by decide +kernel
theorem dX12_handler_16 : decode cX12_handler 16 = .ok (.bipush (-9), 2) := by decide +kernel
theorem dX12_handler_18 : decode cX12_handler 18 = .ok (.if_icmp .ne 8, 3) := by decide +kernel
theorem dX12_handler_21 : decode cX12_handler 21 = .ok (.bipush (-9), 2) := by decide +kernel
theorem dX12_handler_23 : decode cX12_handler 23 = .ok (.goto 7, 3) := by decide +kernel
theorem dX12_handler_26 : decode cX12_handler 26 = .ok (.aload_n 0, 1) := by decide +kernel
theorem dX12_handler_27 : decode cX12_handler 27 = .ok (.getfield 248, 3) := by decide +kernel
theorem dX12_handler_30 : decode cX12_handler 30 = .ok (.ireturn, 1) := by decide +kernel
theorem dX12_keep_0 : decode cX12_keep 0 = .ok (.iload_n 1, 1) := by decide +kernel
theorem dX12_keep_1 : decode cX12_keep 1 = .ok (.iconst 0, 1) := by decide +kernel
theorem dX12_keep_2 : decode cX12_keep 2 = .ok (.iconst 1, 1) := by decide +kernel
theorem dX12_keep_3 : decode cX12_keep 3 = .ok (.invokestatic 74, 3) := by decide +kernel
theorem dX12_keep_6 : decode cX12_keep 6 = .ok (.ifCond .ne 5, 3) := by decide +kernel
theorem dX12_keep_9 : decode cX12_keep 9 = .ok (.iconst (-1), 1) := by decide +kernel
theorem dX12_keep_10 : decode cX12_keep 10 = .ok (.ireturn, 1) := by decide +kernel
theorem dX12_keep_11 : decode cX12_keep 11 = .ok (.iconst 0, 1) := by decide +kernel
theorem dX12_keep_12 : decode cX12_keep 12 = .ok (.istore_n 2, 1) := by decide +kernel
theorem dX12_keep_13 : decode cX12_keep 13 = .ok (.iload_n 2, 1) := by decide +kernel
theorem dX12_keep_14 : decode cX12_keep 14 = .ok (.sipush 8490, 3) := by decide +kernel
theorem dX12_keep_17 : decode cX12_keep 17 = .ok (.if_icmp .ge 27, 3) := by decide +kernel
theorem dX12_keep_20 : decode cX12_keep 20 = .ok (.aload_n 0, 1) := by decide +kernel
theorem dX12_keep_21 : decode cX12_keep 21 = .ok (.getfield 17, 3) := by decide +kernel
theorem dX12_keep_24 : decode cX12_keep 24 = .ok (.sipush 8490, 3) := by decide +kernel
theorem dX12_keep_27 : decode cX12_keep 27 = .ok (.iload_n 1, 1) := by decide +kernel
theorem dX12_keep_28 : decode cX12_keep 28 = .ok (.imul, 1) := by decide +kernel
theorem dX12_keep_29 : decode cX12_keep 29 = .ok (.iload_n 2, 1) := by decide +kernel
theorem dX12_keep_30 : decode cX12_keep 30 = .ok (.iadd, 1) := by decide +kernel
theorem dX12_keep_31 : decode cX12_keep 31 = .ok (.aload_n 0, 1) := by decide +kernel
theorem dX12_keep_32 : decode cX12_keep 32 = .ok (.getfield 14, 3) := by decide +kernel
theorem dX12_keep_35 : decode cX12_keep 35 = .ok (.iload_n 2, 1) := by decide +kernel
theorem dX12_keep_36 : decode cX12_keep 36 = .ok (.iaload, 1) := by decide +kernel
theorem dX12_keep_37 : decode cX12_keep 37 = .ok (.iastore, 1) := by decide +kernel
theorem dX12_keep_38 : decode cX12_keep 38 = .ok (.iinc 2 1, 3) := by decide +kernel
theorem dX12_keep_41 : decode cX12_keep 41 = .ok (.goto (-28), 3) := by decide +kernel
theorem dX12_keep_44 : decode cX12_keep 44 = .ok (.iconst 0, 1) := by decide +kernel
theorem dX12_keep_45 : decode cX12_keep 45 = .ok (.istore_n 2, 1) := by decide +kernel
theorem dX12_keep_46 : decode cX12_keep 46 = .ok (.iload_n 2, 1) := by decide +kernel
theorem dX12_keep_47 : decode cX12_keep 47 = .ok (.bipush 7, 2) := by decide +kernel
theorem dX12_keep_49 : decode cX12_keep 49 = .ok (.aload_n 0, 1) := by decide +kernel
theorem dX12_keep_50 : decode cX12_keep 50 = .ok (.getfield 14, 3) := by decide +kernel
theorem dX12_keep_53 : decode cX12_keep 53 = .ok (.bipush 21, 2) := by decide +kernel
theorem dX12_keep_55 : decode cX12_keep 55 = .ok (.iaload, 1) := by decide +kernel
theorem dX12_keep_56 : decode cX12_keep 56 = .ok (.imul, 1) := by decide +kernel
theorem dX12_keep_57 : decode cX12_keep 57 = .ok (.if_icmp .ge 26, 3) := by decide +kernel
theorem dX12_keep_60 : decode cX12_keep 60 = .ok (.aload_n 0, 1) := by decide +kernel
theorem dX12_keep_61 : decode cX12_keep 61 = .ok (.getfield 25, 3) := by decide +kernel
theorem dX12_keep_64 : decode cX12_keep 64 = .ok (.ldc 20, 2) := by decide +kernel
theorem dX12_keep_66 : decode cX12_keep 66 = .ok (.iload_n 1, 1) := by decide +kernel
theorem dX12_keep_67 : decode cX12_keep 67 = .ok (.imul, 1) := by decide +kernel
theorem dX12_keep_68 : decode cX12_keep 68 = .ok (.iload_n 2, 1) := by decide +kernel
theorem dX12_keep_69 : decode cX12_keep 69 = .ok (.iadd, 1) := by decide +kernel
theorem dX12_keep_70 : decode cX12_keep 70 = .ok (.aload_n 0, 1) := by decide +kernel
theorem dX12_keep_71 : decode cX12_keep 71 = .ok (.getfield 21, 3) := by decide +kernel
theorem dX12_keep_74 : decode cX12_keep 74 = .ok (.iload_n 2, 1) := by decide +kernel
theorem dX12_keep_75 : decode cX12_keep 75 = .ok (.iaload, 1) := by decide +kernel
theorem dX12_keep_76 : decode cX12_keep 76 = .ok (.iastore, 1) := by decide +kernel
theorem dX12_keep_77 : decode cX12_keep 77 = .ok (.iinc 2 1, 3) := by decide +kernel
theorem dX12_keep_80 : decode cX12_keep 80 = .ok (.goto (-34), 3) := by decide +kernel
theorem dX12_keep_83 : decode cX12_keep 83 = .ok (.aload_n 0, 1) := by decide +kernel
theorem dX12_keep_84 : decode cX12_keep 84 = .ok (.dup, 1) := by decide +kernel
theorem dX12_keep_85 : decode cX12_keep 85 = .ok (.getfield 305, 3) := by decide +kernel
theorem dX12_keep_88 : decode cX12_keep 88 = .ok (.iconst 1, 1) := by decide +kernel
theorem dX12_keep_89 : decode cX12_keep 89 = .ok (.iload_n 1, 1) := by decide +kernel
theorem dX12_keep_90 : decode cX12_keep 90 = .ok (.ishl, 1) := by decide +kernel
theorem dX12_keep_91 : decode cX12_keep 91 = .ok (.ior, 1) := by decide +kernel
theorem dX12_keep_92 : decode cX12_keep 92 = .ok (.putfield 305, 3) := by decide +kernel
theorem dX12_keep_95 : decode cX12_keep 95 = .ok (.aload_n 0, 1) := by decide +kernel
theorem dX12_keep_96 : decode cX12_keep 96 = .ok (.getfield 14, 3) := by decide +kernel
theorem dX12_keep_99 : decode cX12_keep 99 = .ok (.iconst 5, 1) := by decide +kernel
theorem dX12_keep_100 : decode cX12_keep 100 = .ok (.iaload, 1) := by decide +kernel
theorem dX12_keep_101 : decode cX12_keep 101 = .ok (.ireturn, 1) := by decide +kernel
theorem dX12_back_0 : decode cX12_back 0 = .ok (.iload_n 1, 1) := by decide +kernel
theorem dX12_back_1 : decode cX12_back 1 = .ok (.iconst 0, 1) := by decide +kernel
theorem dX12_back_2 : decode cX12_back 2 = .ok (.iconst 1, 1) := by decide +kernel
theorem dX12_back_3 : decode cX12_back 3 = .ok (.invokestatic 74, 3) := by decide +kernel
theorem dX12_back_6 : decode cX12_back 6 = .ok (.ifCond .ne 5, 3) := by decide +kernel
theorem dX12_back_9 : decode cX12_back 9 = .ok (.iconst (-1), 1) := by decide +kernel
theorem dX12_back_10 : decode cX12_back 10 = .ok (.ireturn, 1) := by decide +kernel
theorem dX12_back_11 : decode cX12_back 11 = .ok (.aload_n 0, 1) := by decide +kernel
theorem dX12_back_12 : decode cX12_back 12 = .ok (.getfield 305, 3) := by decide +kernel
theorem dX12_back_15 : decode cX12_back 15 = .ok (.iload_n 1, 1) := by decide +kernel
theorem dX12_back_16 : decode cX12_back 16 = .ok (.ishr, 1) := by decide +kernel
theorem dX12_back_17 : decode cX12_back 17 = .ok (.iconst 1, 1) := by decide +kernel
theorem dX12_back_18 : decode cX12_back 18 = .ok (.iand, 1) := by decide +kernel
theorem dX12_back_19 : decode cX12_back 19 = .ok (.ifCond .ne 6, 3) := by decide +kernel
theorem dX12_back_22 : decode cX12_back 22 = .ok (.bipush (-2), 2) := by decide +kernel
theorem dX12_back_24 : decode cX12_back 24 = .ok (.ireturn, 1) := by decide +kernel
theorem dX12_back_25 : decode cX12_back 25 = .ok (.iconst 0, 1) := by decide +kernel
theorem dX12_back_26 : decode cX12_back 26 = .ok (.istore_n 2, 1) := by decide +kernel
theorem dX12_back_27 : decode cX12_back 27 = .ok (.iload_n 2, 1) := by decide +kernel
theorem dX12_back_28 : decode cX12_back 28 = .ok (.sipush 8490, 3) := by decide +kernel
theorem dX12_back_31 : decode cX12_back 31 = .ok (.if_icmp .ge 27, 3) := by decide +kernel
theorem dX12_back_34 : decode cX12_back 34 = .ok (.aload_n 0, 1) := by decide +kernel
theorem dX12_back_35 : decode cX12_back 35 = .ok (.getfield 14, 3) := by decide +kernel
theorem dX12_back_38 : decode cX12_back 38 = .ok (.iload_n 2, 1) := by decide +kernel
theorem dX12_back_39 : decode cX12_back 39 = .ok (.aload_n 0, 1) := by decide +kernel
theorem dX12_back_40 : decode cX12_back 40 = .ok (.getfield 17, 3) := by decide +kernel
theorem dX12_back_43 : decode cX12_back 43 = .ok (.sipush 8490, 3) := by decide +kernel
theorem dX12_back_46 : decode cX12_back 46 = .ok (.iload_n 1, 1) := by decide +kernel
theorem dX12_back_47 : decode cX12_back 47 = .ok (.imul, 1) := by decide +kernel
theorem dX12_back_48 : decode cX12_back 48 = .ok (.iload_n 2, 1) := by decide +kernel
theorem dX12_back_49 : decode cX12_back 49 = .ok (.iadd, 1) := by decide +kernel
theorem dX12_back_50 : decode cX12_back 50 = .ok (.iaload, 1) := by decide +kernel
theorem dX12_back_51 : decode cX12_back 51 = .ok (.iastore, 1) := by decide +kernel
theorem dX12_back_52 : decode cX12_back 52 = .ok (.iinc 2 1, 3) := by decide +kernel
theorem dX12_back_55 : decode cX12_back 55 = .ok (.goto (-28), 3) := by decide +kernel
theorem dX12_back_58 : decode cX12_back 58 = .ok (.iconst 0, 1) := by decide +kernel
theorem dX12_back_59 : decode cX12_back 59 = .ok (.istore_n 2, 1) := by decide +kernel
theorem dX12_back_60 : decode cX12_back 60 = .ok (.iload_n 2, 1) := by decide +kernel
theorem dX12_back_61 : decode cX12_back 61 = .ok (.bipush 7, 2) := by decide +kernel
theorem dX12_back_63 : decode cX12_back 63 = .ok (.aload_n 0, 1) := by decide +kernel
theorem dX12_back_64 : decode cX12_back 64 = .ok (.getfield 14, 3) := by decide +kernel
theorem dX12_back_67 : decode cX12_back 67 = .ok (.bipush 21, 2) := by decide +kernel
theorem dX12_back_69 : decode cX12_back 69 = .ok (.iaload, 1) := by decide +kernel
theorem dX12_back_70 : decode cX12_back 70 = .ok (.imul, 1) := by decide +kernel
theorem dX12_back_71 : decode cX12_back 71 = .ok (.if_icmp .ge 26, 3) := by decide +kernel
theorem dX12_back_74 : decode cX12_back 74 = .ok (.aload_n 0, 1) := by decide +kernel
theorem dX12_back_75 : decode cX12_back 75 = .ok (.getfield 21, 3) := by decide +kernel
theorem dX12_back_78 : decode cX12_back 78 = .ok (.iload_n 2, 1) := by decide +kernel
theorem dX12_back_79 : decode cX12_back 79 = .ok (.aload_n 0, 1) := by decide +kernel
theorem dX12_back_80 : decode cX12_back 80 = .ok (.getfield 25, 3) := by decide +kernel
theorem dX12_back_83 : decode cX12_back 83 = .ok (.ldc 20, 2) := by decide +kernel
theorem dX12_back_85 : decode cX12_back 85 = .ok (.iload_n 1, 1) := by decide +kernel
theorem dX12_back_86 : decode cX12_back 86 = .ok (.imul, 1) := by decide +kernel
theorem dX12_back_87 : decode cX12_back 87 = .ok (.iload_n 2, 1) := by decide +kernel
theorem dX12_back_88 : decode cX12_back 88 = .ok (.iadd, 1) := by decide +kernel
theorem dX12_back_89 : decode cX12_back 89 = .ok (.iaload, 1) := by decide +kernel
theorem dX12_back_90 : decode cX12_back 90 = .ok (.iastore, 1) := by decide +kernel
theorem dX12_back_91 : decode cX12_back 91 = .ok (.iinc 2 1, 3) := by decide +kernel
theorem dX12_back_94 : decode cX12_back 94 = .ok (.goto (-34), 3) := by decide +kernel
theorem dX12_back_97 : decode cX12_back 97 = .ok (.aload_n 0, 1) := by decide +kernel
theorem dX12_back_98 : decode cX12_back 98 = .ok (.getfield 14, 3) := by decide +kernel
theorem dX12_back_101 : decode cX12_back 101 = .ok (.iconst 5, 1) := by decide +kernel
theorem dX12_back_102 : decode cX12_back 102 = .ok (.iaload, 1) := by decide +kernel
theorem dX12_back_103 : decode cX12_back 103 = .ok (.ireturn, 1) := by decide +kernel
theorem dJ9_max_7cf53_0 : decode cJ9_max_7cf53 0 = .ok (.iload_n 0, 1) := by decide +kernel
theorem dJ9_max_7cf53_1 : decode cJ9_max_7cf53 1 = .ok (.iload_n 1, 1) := by decide +kernel
theorem dJ9_max_7cf53_2 : decode cJ9_max_7cf53 2 = .ok (.if_icmp .lt 7, 3) := by decide +kernel
theorem dJ9_max_7cf53_5 : decode cJ9_max_7cf53 5 = .ok (.iload_n 0, 1) := by decide +kernel
theorem dJ9_max_7cf53_6 : decode cJ9_max_7cf53 6 = .ok (.goto 4, 3) := by decide +kernel
theorem dJ9_max_7cf53_9 : decode cJ9_max_7cf53 9 = .ok (.iload_n 1, 1) := by decide +kernel
theorem dJ9_max_7cf53_10 : decode cJ9_max_7cf53 10 = .ok (.ireturn, 1) := by decide +kernel
theorem dJ9_min_7cf53_0 : decode cJ9_min_7cf53 0 = .ok (.iload_n 0, 1) := by decide +kernel
theorem dJ9_min_7cf53_1 : decode cJ9_min_7cf53 1 = .ok (.iload_n 1, 1) := by decide +kernel
theorem dJ9_min_7cf53_2 : decode cJ9_min_7cf53 2 = .ok (.if_icmp .gt 7, 3) := by decide +kernel
theorem dJ9_min_7cf53_5 : decode cJ9_min_7cf53 5 = .ok (.iload_n 0, 1) := by decide +kernel
theorem dJ9_min_7cf53_6 : decode cJ9_min_7cf53 6 = .ok (.goto 4, 3) := by decide +kernel
theorem dJ9_min_7cf53_9 : decode cJ9_min_7cf53 9 = .ok (.iload_n 1, 1) := by decide +kernel
theorem dJ9_min_7cf53_10 : decode cJ9_min_7cf53 10 = .ok (.ireturn, 1) := by decide +kernel
theorem dJ7_fill_53178_0 : decode cJ7_fill_53178 0 = .ok (.iconst 0, 1) := by decide +kernel
theorem dJ7_fill_53178_1 : decode cJ7_fill_53178 1 = .ok (.istore_n 2, 1) := by decide +kernel
theorem dJ7_fill_53178_2 : decode cJ7_fill_53178 2 = .ok (.aload_n 0, 1) := by decide +kernel
theorem dJ7_fill_53178_3 : decode cJ7_fill_53178 3 = .ok (.arraylength, 1) := by decide +kernel
theorem dJ7_fill_53178_4 : decode cJ7_fill_53178 4 = .ok (.istore_n 3, 1) := by decide +kernel
theorem dJ7_fill_53178_5 : decode cJ7_fill_53178 5 = .ok (.iload_n 2, 1) := by decide +kernel
theorem dJ7_fill_53178_6 : decode cJ7_fill_53178 6 = .ok (.iload_n 3, 1) := by decide +kernel
theorem dJ7_fill_53178_7 : decode cJ7_fill_53178 7 = .ok (.if_icmp .ge 13, 3) := by decide +kernel
theorem dJ7_fill_53178_10 : decode cJ7_fill_53178 10 = .ok (.aload_n 0, 1) := by decide +kernel
theorem dJ7_fill_53178_11 : decode cJ7_fill_53178 11 = .ok (.iload_n 2, 1) := by decide +kernel
theorem dJ7_fill_53178_12 : decode cJ7_fill_53178 12 = .ok (.iload_n 1, 1) := by decide +kernel
theorem dJ7_fill_53178_13 : decode cJ7_fill_53178 13 = .ok (.iastore, 1) := by decide +kernel
theorem dJ7_fill_53178_14 : decode cJ7_fill_53178 14 = .ok (.iinc 2 1, 3) := by decide +kernel
theorem dJ7_fill_53178_17 : decode cJ7_fill_53178 17 = .ok (.goto (-12), 3) := by decide +kernel
theorem dJ7_fill_53178_20 : decode cJ7_fill_53178 20 = .ok (.return_, 1) := by decide +kernel
theorem dJ7_copyOf_59c91_0 : decode cJ7_copyOf_59c91 0 = .ok (.iload_n 1, 1) := by decide +kernel
theorem dJ7_copyOf_59c91_1 : decode cJ7_copyOf_59c91 1 = .ok (.aload_n 0, 1) := by decide +kernel
theorem dJ7_copyOf_59c91_2 : decode cJ7_copyOf_59c91 2 = .ok (.arraylength, 1) := by decide +kernel
theorem dJ7_copyOf_59c91_3 : decode cJ7_copyOf_59c91 3 = .ok (.if_icmp .ne 11, 3) := by decide +kernel
theorem dJ7_copyOf_59c91_6 : decode cJ7_copyOf_59c91 6 = .ok (.aload_n 0, 1) := by decide +kernel
theorem dJ7_copyOf_59c91_7 : decode cJ7_copyOf_59c91 7 = .ok (.invokevirtual 316, 3) := by decide +kernel
theorem dJ7_copyOf_59c91_10 : decode cJ7_copyOf_59c91 10 = .ok (.checkcast 317, 3) := by decide +kernel
theorem dJ7_copyOf_59c91_13 : decode cJ7_copyOf_59c91 13 = .ok (.areturn, 1) := by decide +kernel
theorem dJ7_copyOf_59c91_14 : decode cJ7_copyOf_59c91 14 = .ok (.iload_n 1, 1) := by decide +kernel
theorem dJ7_copyOf_59c91_15 : decode cJ7_copyOf_59c91 15 = .ok (.newarray .int, 2) := by decide +kernel
theorem dJ7_copyOf_59c91_17 : decode cJ7_copyOf_59c91 17 = .ok (.astore_n 2, 1) := by decide +kernel
theorem dJ7_copyOf_59c91_18 : decode cJ7_copyOf_59c91 18 = .ok (.aload_n 0, 1) := by decide +kernel
theorem dJ7_copyOf_59c91_19 : decode cJ7_copyOf_59c91 19 = .ok (.iconst 0, 1) := by decide +kernel
theorem dJ7_copyOf_59c91_20 : decode cJ7_copyOf_59c91 20 = .ok (.aload_n 2, 1) := by decide +kernel
theorem dJ7_copyOf_59c91_21 : decode cJ7_copyOf_59c91 21 = .ok (.iconst 0, 1) := by decide +kernel
theorem dJ7_copyOf_59c91_22 : decode cJ7_copyOf_59c91 22 = .ok (.aload_n 0, 1) := by decide +kernel
theorem dJ7_copyOf_59c91_23 : decode cJ7_copyOf_59c91 23 = .ok (.arraylength, 1) := by decide +kernel
theorem dJ7_copyOf_59c91_24 : decode cJ7_copyOf_59c91 24 = .ok (.iload_n 1, 1) := by decide +kernel
theorem dJ7_copyOf_59c91_25 : decode cJ7_copyOf_59c91 25 = .ok (.invokestatic 304, 3) := by decide +kernel
theorem dJ7_copyOf_59c91_28 : decode cJ7_copyOf_59c91 28 = .ok (.invokestatic 150, 3) := by decide +kernel
theorem dJ7_copyOf_59c91_31 : decode cJ7_copyOf_59c91 31 = .ok (.aload_n 2, 1) := by decide +kernel
theorem dJ7_copyOf_59c91_32 : decode cJ7_copyOf_59c91 32 = .ok (.areturn, 1) := by decide +kernel
theorem dL_law_0 : decode cL_law 0 = .ok (.new 7, 3) := by decide +kernel
theorem dL_law_3 : decode cL_law 3 = .ok (.dup, 1) := by decide +kernel
theorem dL_law_4 : decode cL_law 4 = .ok (.invokespecial 9, 3) := by decide +kernel
theorem dL_law_7 : decode cL_law 7 = .ok (.astore_n 1, 1) := by decide +kernel
theorem dL_law_8 : decode cL_law 8 = .ok (.new 10, 3) := by decide +kernel
theorem dL_law_11 : decode cL_law 11 = .ok (.dup, 1) := by decide +kernel
theorem dL_law_12 : decode cL_law 12 = .ok (.invokespecial 12, 3) := by decide +kernel
theorem dL_law_15 : decode cL_law 15 = .ok (.astore_n 2, 1) := by decide +kernel
theorem dL_law_16 : decode cL_law 16 = .ok (.iconst 0, 1) := by decide +kernel
theorem dL_law_17 : decode cL_law 17 = .ok (.istore_n 3, 1) := by decide +kernel
theorem dL_law_18 : decode cL_law 18 = .ok (.iload_n 3, 1) := by decide +kernel
theorem dL_law_19 : decode cL_law 19 = .ok (.aload_n 0, 1) := by decide +kernel
theorem dL_law_20 : decode cL_law 20 = .ok (.arraylength, 1) := by decide +kernel
theorem dL_law_21 : decode cL_law 21 = .ok (.iconst 4, 1) := by decide +kernel
theorem dL_law_22 : decode cL_law 22 = .ok (.isub, 1) := by decide +kernel
theorem dL_law_23 : decode cL_law 23 = .ok (.if_icmp .gt 578, 3) := by decide +kernel
theorem dL_law_26 : decode cL_law 26 = .ok (.aload_n 0, 1) := by decide +kernel
theorem dL_law_27 : decode cL_law 27 = .ok (.iload_n 3, 1) := by decide +kernel
theorem dL_law_28 : decode cL_law 28 = .ok (.iaload, 1) := by decide +kernel
theorem dL_law_29 : decode cL_law 29 = .ok (.bipush 31, 2) := by decide +kernel
theorem dL_law_31 : decode cL_law 31 = .ok (.iand, 1) := by decide +kernel
theorem dL_law_32 : decode cL_law 32 = .ok (.tableswitch 563 0 20 #[100, 123, 136, 159, 172, 195, 218, 231, 254, 297, 320, 343, 366, 389, 402, 415, 438, 461, 494, 517, 540], 100) := by decide +kernel
theorem dL_law_132 : decode cL_law 132 = .ok (.aload_n 1, 1) := by decide +kernel
theorem dL_law_133 : decode cL_law 133 = .ok (.aload_n 0, 1) := by decide +kernel
theorem dL_law_134 : decode cL_law 134 = .ok (.iload_n 3, 1) := by decide +kernel
theorem dL_law_135 : decode cL_law 135 = .ok (.iconst 1, 1) := by decide +kernel
theorem dL_law_136 : decode cL_law 136 = .ok (.iadd, 1) := by decide +kernel
theorem dL_law_137 : decode cL_law 137 = .ok (.iaload, 1) := by decide +kernel
theorem dL_law_138 : decode cL_law 138 = .ok (.invokevirtual 13, 3) := by decide +kernel
theorem dL_law_141 : decode cL_law 141 = .ok (.aload_n 2, 1) := by decide +kernel
theorem dL_law_142 : decode cL_law 142 = .ok (.aload_n 0, 1) := by decide +kernel
theorem dL_law_143 : decode cL_law 143 = .ok (.iload_n 3, 1) := by decide +kernel
theorem dL_law_144 : decode cL_law 144 = .ok (.iconst 1, 1) := by decide +kernel
theorem dL_law_145 : decode cL_law 145 = .ok (.iadd, 1) := by decide +kernel
theorem dL_law_146 : decode cL_law 146 = .ok (.iaload, 1) := by decide +kernel
theorem dL_law_147 : decode cL_law 147 = .ok (.invokevirtual 17, 3) := by decide +kernel
theorem dL_law_150 : decode cL_law 150 = .ok (.if_icmp .eq 445, 3) := by decide +kernel
theorem dL_law_153 : decode cL_law 153 = .ok (.iconst 0, 1) := by decide +kernel
theorem dL_law_154 : decode cL_law 154 = .ok (.ireturn, 1) := by decide +kernel
theorem dL_law_155 : decode cL_law 155 = .ok (.aload_n 1, 1) := by decide +kernel
theorem dL_law_156 : decode cL_law 156 = .ok (.invokevirtual 18, 3) := by decide +kernel
theorem dL_law_159 : decode cL_law 159 = .ok (.aload_n 2, 1) := by decide +kernel
theorem dL_law_160 : decode cL_law 160 = .ok (.invokevirtual 22, 3) := by decide +kernel
theorem dL_law_163 : decode cL_law 163 = .ok (.if_icmp .eq 432, 3) := by decide +kernel
theorem dL_law_166 : decode cL_law 166 = .ok (.iconst 0, 1) := by decide +kernel
theorem dL_law_167 : decode cL_law 167 = .ok (.ireturn, 1) := by decide +kernel
theorem dL_law_168 : decode cL_law 168 = .ok (.aload_n 1, 1) := by decide +kernel
theorem dL_law_169 : decode cL_law 169 = .ok (.aload_n 0, 1) := by decide +kernel
theorem dL_law_170 : decode cL_law 170 = .ok (.iload_n 3, 1) := by decide +kernel
theorem dL_law_171 : decode cL_law 171 = .ok (.iconst 1, 1) := by decide +kernel
theorem dL_law_172 : decode cL_law 172 = .ok (.iadd, 1) := by decide +kernel
theorem dL_law_173 : decode cL_law 173 = .ok (.iaload, 1) := by decide +kernel
theorem dL_law_174 : decode cL_law 174 = .ok (.invokevirtual 23, 3) := by decide +kernel
theorem dL_law_177 : decode cL_law 177 = .ok (.aload_n 2, 1) := by decide +kernel
theorem dL_law_178 : decode cL_law 178 = .ok (.aload_n 0, 1) := by decide +kernel
theorem dL_law_179 : decode cL_law 179 = .ok (.iload_n 3, 1) := by decide +kernel
theorem dL_law_180 : decode cL_law 180 = .ok (.iconst 1, 1) := by decide +kernel
theorem dL_law_181 : decode cL_law 181 = .ok (.iadd, 1) := by decide +kernel
theorem dL_law_182 : decode cL_law 182 = .ok (.iaload, 1) := by decide +kernel
theorem dL_law_183 : decode cL_law 183 = .ok (.invokevirtual 26, 3) := by decide +kernel
theorem dL_law_186 : decode cL_law 186 = .ok (.if_icmp .eq 409, 3) := by decide +kernel
theorem dL_law_189 : decode cL_law 189 = .ok (.iconst 0, 1) := by decide +kernel
theorem dL_law_190 : decode cL_law 190 = .ok (.ireturn, 1) := by decide +kernel
theorem dL_law_191 : decode cL_law 191 = .ok (.aload_n 1, 1) := by decide +kernel
theorem dL_law_192 : decode cL_law 192 = .ok (.invokevirtual 27, 3) := by decide +kernel
theorem dL_law_195 : decode cL_law 195 = .ok (.aload_n 2, 1) := by decide +kernel
theorem dL_law_196 : decode cL_law 196 = .ok (.invokevirtual 30, 3) := by decide +kernel
theorem dL_law_199 : decode cL_law 199 = .ok (.if_icmp .eq 396, 3) := by decide +kernel
theorem dL_law_202 : decode cL_law 202 = .ok (.iconst 0, 1) := by decide +kernel
theorem dL_law_203 : decode cL_law 203 = .ok (.ireturn, 1) := by decide +kernel
theorem dL_law_204 : decode cL_law 204 = .ok (.aload_n 1, 1) := by decide +kernel
theorem dL_law_205 : decode cL_law 205 = .ok (.aload_n 0, 1) := by decide +kernel
theorem dL_law_206 : decode cL_law 206 = .ok (.iload_n 3, 1) := by decide +kernel
theorem dL_law_207 : decode cL_law 207 = .ok (.iconst 1, 1) := by decide +kernel
theorem dL_law_208 : decode cL_law 208 = .ok (.iadd, 1) := by decide +kernel
theorem dL_law_209 : decode cL_law 209 = .ok (.iaload, 1) := by decide +kernel
theorem dL_law_210 : decode cL_law 210 = .ok (.invokevirtual 31, 3) := by decide +kernel
theorem dL_law_213 : decode cL_law 213 = .ok (.aload_n 2, 1) := by decide +kernel
theorem dL_law_214 : decode cL_law 214 = .ok (.aload_n 0, 1) := by decide +kernel
theorem dL_law_215 : decode cL_law 215 = .ok (.iload_n 3, 1) := by decide +kernel
theorem dL_law_216 : decode cL_law 216 = .ok (.iconst 1, 1) := by decide +kernel
theorem dL_law_217 : decode cL_law 217 = .ok (.iadd, 1) := by decide +kernel
theorem dL_law_218 : decode cL_law 218 = .ok (.iaload, 1) := by decide +kernel
theorem dL_law_219 : decode cL_law 219 = .ok (.invokevirtual 34, 3) := by decide +kernel
theorem dL_law_222 : decode cL_law 222 = .ok (.if_icmp .eq 373, 3) := by decide +kernel
theorem dL_law_225 : decode cL_law 225 = .ok (.iconst 0, 1) := by decide +kernel
theorem dL_law_226 : decode cL_law 226 = .ok (.ireturn, 1) := by decide +kernel
theorem dL_law_227 : decode cL_law 227 = .ok (.aload_n 1, 1) := by decide +kernel
theorem dL_law_228 : decode cL_law 228 = .ok (.aload_n 0, 1) := by decide +kernel
theorem dL_law_229 : decode cL_law 229 = .ok (.iload_n 3, 1) := by decide +kernel
theorem dL_law_230 : decode cL_law 230 = .ok (.iconst 1, 1) := by decide +kernel
theorem dL_law_231 : decode cL_law 231 = .ok (.iadd, 1) := by decide +kernel
theorem dL_law_232 : decode cL_law 232 = .ok (.iaload, 1) := by decide +kernel
theorem dL_law_233 : decode cL_law 233 = .ok (.invokevirtual 35, 3) := by decide +kernel
theorem dL_law_236 : decode cL_law 236 = .ok (.aload_n 2, 1) := by decide +kernel
theorem dL_law_237 : decode cL_law 237 = .ok (.aload_n 0, 1) := by decide +kernel
theorem dL_law_238 : decode cL_law 238 = .ok (.iload_n 3, 1) := by decide +kernel
theorem dL_law_239 : decode cL_law 239 = .ok (.iconst 1, 1) := by decide +kernel
theorem dL_law_240 : decode cL_law 240 = .ok (.iadd, 1) := by decide +kernel
theorem dL_law_241 : decode cL_law 241 = .ok (.iaload, 1) := by decide +kernel
theorem dL_law_242 : decode cL_law 242 = .ok (.invokevirtual 38, 3) := by decide +kernel
theorem dL_law_245 : decode cL_law 245 = .ok (.if_icmp .eq 350, 3) := by decide +kernel
theorem dL_law_248 : decode cL_law 248 = .ok (.iconst 0, 1) := by decide +kernel
theorem dL_law_249 : decode cL_law 249 = .ok (.ireturn, 1) := by decide +kernel
theorem dL_law_250 : decode cL_law 250 = .ok (.aload_n 1, 1) := by decide +kernel
theorem dL_law_251 : decode cL_law 251 = .ok (.invokevirtual 39, 3) := by decide +kernel
theorem dL_law_254 : decode cL_law 254 = .ok (.aload_n 2, 1) := by decide +kernel
theorem dL_law_255 : decode cL_law 255 = .ok (.invokevirtual 42, 3) := by decide +kernel
theorem dL_law_258 : decode cL_law 258 = .ok (.if_icmp .eq 337, 3) := by decide +kernel
theorem dL_law_261 : decode cL_law 261 = .ok (.iconst 0, 1) := by decide +kernel
theorem dL_law_262 : decode cL_law 262 = .ok (.ireturn, 1) := by decide +kernel
theorem dL_law_263 : decode cL_law 263 = .ok (.aload_n 1, 1) := by decide +kernel
theorem dL_law_264 : decode cL_law 264 = .ok (.aload_n 0, 1) := by decide +kernel
theorem dL_law_265 : decode cL_law 265 = .ok (.iload_n 3, 1) := by decide +kernel
theorem dL_law_266 : decode cL_law 266 = .ok (.iconst 1, 1) := by decide +kernel
theorem dL_law_267 : decode cL_law 267 = .ok (.iadd, 1) := by decide +kernel
theorem dL_law_268 : decode cL_law 268 = .ok (.iaload, 1) := by decide +kernel
theorem dL_law_269 : decode cL_law 269 = .ok (.invokevirtual 43, 3) := by decide +kernel
theorem dL_law_272 : decode cL_law 272 = .ok (.aload_n 2, 1) := by decide +kernel
theorem dL_law_273 : decode cL_law 273 = .ok (.aload_n 0, 1) := by decide +kernel
theorem dL_law_274 : decode cL_law 274 = .ok (.iload_n 3, 1) := by decide +kernel
theorem dL_law_275 : decode cL_law 275 = .ok (.iconst 1, 1) := by decide +kernel
theorem dL_law_276 : decode cL_law 276 = .ok (.iadd, 1) := by decide +kernel
theorem dL_law_277 : decode cL_law 277 = .ok (.iaload, 1) := by decide +kernel
theorem dL_law_278 : decode cL_law 278 = .ok (.invokevirtual 46, 3) := by decide +kernel
theorem dL_law_281 : decode cL_law 281 = .ok (.if_icmp .eq 314, 3) := by decide +kernel
theorem dL_law_284 : decode cL_law 284 = .ok (.iconst 0, 1) := by decide +kernel
theorem dL_law_285 : decode cL_law 285 = .ok (.ireturn, 1) := by decide +kernel
theorem dL_law_286 : decode cL_law 286 = .ok (.aload_n 1, 1) := by decide +kernel
theorem dL_law_287 : decode cL_law 287 = .ok (.aload_n 0, 1) := by decide +kernel
theorem dL_law_288 : decode cL_law 288 = .ok (.iload_n 3, 1) := by decide +kernel
theorem dL_law_289 : decode cL_law 289 = .ok (.iconst 1, 1) := by decide +kernel
theorem dL_law_290 : decode cL_law 290 = .ok (.iadd, 1) := by decide +kernel
theorem dL_law_291 : decode cL_law 291 = .ok (.iaload, 1) := by decide +kernel
theorem dL_law_292 : decode cL_law 292 = .ok (.aload_n 0, 1) := by decide +kernel
theorem dL_law_293 : decode cL_law 293 = .ok (.iload_n 3, 1) := by decide +kernel
theorem dL_law_294 : decode cL_law 294 = .ok (.iconst 2, 1) := by decide +kernel
theorem dL_law_295 : decode cL_law 295 = .ok (.iadd, 1) := by decide +kernel
theorem dL_law_296 : decode cL_law 296 = .ok (.iaload, 1) := by decide +kernel
theorem dL_law_297 : decode cL_law 297 = .ok (.aload_n 0, 1) := by decide +kernel
theorem dL_law_298 : decode cL_law 298 = .ok (.iload_n 3, 1) := by decide +kernel
theorem dL_law_299 : decode cL_law 299 = .ok (.iconst 3, 1) := by decide +kernel
theorem dL_law_300 : decode cL_law 300 = .ok (.iadd, 1) := by decide +kernel
theorem dL_law_301 : decode cL_law 301 = .ok (.iaload, 1) := by decide +kernel
theorem dL_law_302 : decode cL_law 302 = .ok (.invokevirtual 47, 3) := by decide +kernel
theorem dL_law_305 : decode cL_law 305 = .ok (.aload_n 2, 1) := by decide +kernel
theorem dL_law_306 : decode cL_law 306 = .ok (.aload_n 0, 1) := by decide +kernel
theorem dL_law_307 : decode cL_law 307 = .ok (.iload_n 3, 1) := by decide +kernel
theorem dL_law_308 : decode cL_law 308 = .ok (.iconst 1, 1) := by decide +kernel
theorem dL_law_309 : decode cL_law 309 = .ok (.iadd, 1) := by decide +kernel
theorem dL_law_310 : decode cL_law 310 = .ok (.iaload, 1) := by decide +kernel
theorem dL_law_311 : decode cL_law 311 = .ok (.aload_n 0, 1) := by decide +kernel
theorem dL_law_312 : decode cL_law 312 = .ok (.iload_n 3, 1) := by decide +kernel
theorem dL_law_313 : decode cL_law 313 = .ok (.iconst 2, 1) := by decide +kernel
theorem dL_law_314 : decode cL_law 314 = .ok (.iadd, 1) := by decide +kernel
theorem dL_law_315 : decode cL_law 315 = .ok (.iaload, 1) := by decide +kernel
theorem dL_law_316 : decode cL_law 316 = .ok (.aload_n 0, 1) := by decide +kernel
theorem dL_law_317 : decode cL_law 317 = .ok (.iload_n 3, 1) := by decide +kernel
theorem dL_law_318 : decode cL_law 318 = .ok (.iconst 3, 1) := by decide +kernel
theorem dL_law_319 : decode cL_law 319 = .ok (.iadd, 1) := by decide +kernel
theorem dL_law_320 : decode cL_law 320 = .ok (.iaload, 1) := by decide +kernel
theorem dL_law_321 : decode cL_law 321 = .ok (.invokevirtual 51, 3) := by decide +kernel
theorem dL_law_324 : decode cL_law 324 = .ok (.if_icmp .eq 271, 3) := by decide +kernel
theorem dL_law_327 : decode cL_law 327 = .ok (.iconst 0, 1) := by decide +kernel
theorem dL_law_328 : decode cL_law 328 = .ok (.ireturn, 1) := by decide +kernel
theorem dL_law_329 : decode cL_law 329 = .ok (.aload_n 1, 1) := by decide +kernel
theorem dL_law_330 : decode cL_law 330 = .ok (.aload_n 0, 1) := by decide +kernel
theorem dL_law_331 : decode cL_law 331 = .ok (.iload_n 3, 1) := by decide +kernel
theorem dL_law_332 : decode cL_law 332 = .ok (.iconst 1, 1) := by decide +kernel
theorem dL_law_333 : decode cL_law 333 = .ok (.iadd, 1) := by decide +kernel
theorem dL_law_334 : decode cL_law 334 = .ok (.iaload, 1) := by decide +kernel
theorem dL_law_335 : decode cL_law 335 = .ok (.invokevirtual 52, 3) := by decide +kernel
theorem dL_law_338 : decode cL_law 338 = .ok (.aload_n 2, 1) := by decide +kernel
theorem dL_law_339 : decode cL_law 339 = .ok (.aload_n 0, 1) := by decide +kernel
theorem dL_law_340 : decode cL_law 340 = .ok (.iload_n 3, 1) := by decide +kernel
theorem dL_law_341 : decode cL_law 341 = .ok (.iconst 1, 1) := by decide +kernel
theorem dL_law_342 : decode cL_law 342 = .ok (.iadd, 1) := by decide +kernel
theorem dL_law_343 : decode cL_law 343 = .ok (.iaload, 1) := by decide +kernel
theorem dL_law_344 : decode cL_law 344 = .ok (.invokevirtual 55, 3) := by decide +kernel
theorem dL_law_347 : decode cL_law 347 = .ok (.if_icmp .eq 248, 3) := by decide +kernel
theorem dL_law_350 : decode cL_law 350 = .ok (.iconst 0, 1) := by decide +kernel
theorem dL_law_351 : decode cL_law 351 = .ok (.ireturn, 1) := by decide +kernel
theorem dL_law_352 : decode cL_law 352 = .ok (.aload_n 1, 1) := by decide +kernel
theorem dL_law_353 : decode cL_law 353 = .ok (.aload_n 0, 1) := by decide +kernel
theorem dL_law_354 : decode cL_law 354 = .ok (.iload_n 3, 1) := by decide +kernel
theorem dL_law_355 : decode cL_law 355 = .ok (.iconst 1, 1) := by decide +kernel
theorem dL_law_356 : decode cL_law 356 = .ok (.iadd, 1) := by decide +kernel
theorem dL_law_357 : decode cL_law 357 = .ok (.iaload, 1) := by decide +kernel
theorem dL_law_358 : decode cL_law 358 = .ok (.invokevirtual 56, 3) := by decide +kernel
theorem dL_law_361 : decode cL_law 361 = .ok (.aload_n 2, 1) := by decide +kernel
theorem dL_law_362 : decode cL_law 362 = .ok (.aload_n 0, 1) := by decide +kernel
theorem dL_law_363 : decode cL_law 363 = .ok (.iload_n 3, 1) := by decide +kernel
theorem dL_law_364 : decode cL_law 364 = .ok (.iconst 1, 1) := by decide +kernel
theorem dL_law_365 : decode cL_law 365 = .ok (.iadd, 1) := by decide +kernel
theorem dL_law_366 : decode cL_law 366 = .ok (.iaload, 1) := by decide +kernel
theorem dL_law_367 : decode cL_law 367 = .ok (.invokevirtual 59, 3) := by decide +kernel
theorem dL_law_370 : decode cL_law 370 = .ok (.if_icmp .eq 225, 3) := by decide +kernel
theorem dL_law_373 : decode cL_law 373 = .ok (.iconst 0, 1) := by decide +kernel
theorem dL_law_374 : decode cL_law 374 = .ok (.ireturn, 1) := by decide +kernel
theorem dL_law_375 : decode cL_law 375 = .ok (.aload_n 1, 1) := by decide +kernel
theorem dL_law_376 : decode cL_law 376 = .ok (.aload_n 0, 1) := by decide +kernel
theorem dL_law_377 : decode cL_law 377 = .ok (.iload_n 3, 1) := by decide +kernel
theorem dL_law_378 : decode cL_law 378 = .ok (.iconst 1, 1) := by decide +kernel
theorem dL_law_379 : decode cL_law 379 = .ok (.iadd, 1) := by decide +kernel
theorem dL_law_380 : decode cL_law 380 = .ok (.iaload, 1) := by decide +kernel
theorem dL_law_381 : decode cL_law 381 = .ok (.invokevirtual 60, 3) := by decide +kernel
theorem dL_law_384 : decode cL_law 384 = .ok (.aload_n 2, 1) := by decide +kernel
theorem dL_law_385 : decode cL_law 385 = .ok (.aload_n 0, 1) := by decide +kernel
theorem dL_law_386 : decode cL_law 386 = .ok (.iload_n 3, 1) := by decide +kernel
theorem dL_law_387 : decode cL_law 387 = .ok (.iconst 1, 1) := by decide +kernel
theorem dL_law_388 : decode cL_law 388 = .ok (.iadd, 1) := by decide +kernel
theorem dL_law_389 : decode cL_law 389 = .ok (.iaload, 1) := by decide +kernel
theorem dL_law_390 : decode cL_law 390 = .ok (.invokevirtual 63, 3) := by decide +kernel
theorem dL_law_393 : decode cL_law 393 = .ok (.if_icmp .eq 202, 3) := by decide +kernel
theorem dL_law_396 : decode cL_law 396 = .ok (.iconst 0, 1) := by decide +kernel
theorem dL_law_397 : decode cL_law 397 = .ok (.ireturn, 1) := by decide +kernel
theorem dL_law_398 : decode cL_law 398 = .ok (.aload_n 1, 1) := by decide +kernel
theorem dL_law_399 : decode cL_law 399 = .ok (.aload_n 0, 1) := by decide +kernel
theorem dL_law_400 : decode cL_law 400 = .ok (.iload_n 3, 1) := by decide +kernel
theorem dL_law_401 : decode cL_law 401 = .ok (.iconst 1, 1) := by decide +kernel
theorem dL_law_402 : decode cL_law 402 = .ok (.iadd, 1) := by decide +kernel
theorem dL_law_403 : decode cL_law 403 = .ok (.iaload, 1) := by decide +kernel
theorem dL_law_404 : decode cL_law 404 = .ok (.invokevirtual 64, 3) := by decide +kernel
theorem dL_law_407 : decode cL_law 407 = .ok (.aload_n 2, 1) := by decide +kernel
theorem dL_law_408 : decode cL_law 408 = .ok (.aload_n 0, 1) := by decide +kernel
theorem dL_law_409 : decode cL_law 409 = .ok (.iload_n 3, 1) := by decide +kernel
theorem dL_law_410 : decode cL_law 410 = .ok (.iconst 1, 1) := by decide +kernel
theorem dL_law_411 : decode cL_law 411 = .ok (.iadd, 1) := by decide +kernel
theorem dL_law_412 : decode cL_law 412 = .ok (.iaload, 1) := by decide +kernel
theorem dL_law_413 : decode cL_law 413 = .ok (.invokevirtual 67, 3) := by decide +kernel
theorem dL_law_416 : decode cL_law 416 = .ok (.if_icmp .eq 179, 3) := by decide +kernel
theorem dL_law_419 : decode cL_law 419 = .ok (.iconst 0, 1) := by decide +kernel
theorem dL_law_420 : decode cL_law 420 = .ok (.ireturn, 1) := by decide +kernel
theorem dL_law_421 : decode cL_law 421 = .ok (.aload_n 1, 1) := by decide +kernel
theorem dL_law_422 : decode cL_law 422 = .ok (.invokevirtual 68, 3) := by decide +kernel
theorem dL_law_425 : decode cL_law 425 = .ok (.aload_n 2, 1) := by decide +kernel
theorem dL_law_426 : decode cL_law 426 = .ok (.invokevirtual 71, 3) := by decide +kernel
theorem dL_law_429 : decode cL_law 429 = .ok (.if_icmp .eq 166, 3) := by decide +kernel
theorem dL_law_432 : decode cL_law 432 = .ok (.iconst 0, 1) := by decide +kernel
theorem dL_law_433 : decode cL_law 433 = .ok (.ireturn, 1) := by decide +kernel
theorem dL_law_434 : decode cL_law 434 = .ok (.aload_n 1, 1) := by decide +kernel
theorem dL_law_435 : decode cL_law 435 = .ok (.invokevirtual 72, 3) := by decide +kernel
theorem dL_law_438 : decode cL_law 438 = .ok (.aload_n 2, 1) := by decide +kernel
theorem dL_law_439 : decode cL_law 439 = .ok (.invokevirtual 75, 3) := by decide +kernel
theorem dL_law_442 : decode cL_law 442 = .ok (.if_icmp .eq 153, 3) := by decide +kernel
theorem dL_law_445 : decode cL_law 445 = .ok (.iconst 0, 1) := by decide +kernel
theorem dL_law_446 : decode cL_law 446 = .ok (.ireturn, 1) := by decide +kernel
theorem dL_law_447 : decode cL_law 447 = .ok (.aload_n 1, 1) := by decide +kernel
theorem dL_law_448 : decode cL_law 448 = .ok (.aload_n 0, 1) := by decide +kernel
theorem dL_law_449 : decode cL_law 449 = .ok (.iload_n 3, 1) := by decide +kernel
theorem dL_law_450 : decode cL_law 450 = .ok (.iconst 1, 1) := by decide +kernel
theorem dL_law_451 : decode cL_law 451 = .ok (.iadd, 1) := by decide +kernel
theorem dL_law_452 : decode cL_law 452 = .ok (.iaload, 1) := by decide +kernel
theorem dL_law_453 : decode cL_law 453 = .ok (.invokevirtual 76, 3) := by decide +kernel
theorem dL_law_456 : decode cL_law 456 = .ok (.aload_n 2, 1) := by decide +kernel
theorem dL_law_457 : decode cL_law 457 = .ok (.aload_n 0, 1) := by decide +kernel
theorem dL_law_458 : decode cL_law 458 = .ok (.iload_n 3, 1) := by decide +kernel
theorem dL_law_459 : decode cL_law 459 = .ok (.iconst 1, 1) := by decide +kernel
theorem dL_law_460 : decode cL_law 460 = .ok (.iadd, 1) := by decide +kernel
theorem dL_law_461 : decode cL_law 461 = .ok (.iaload, 1) := by decide +kernel
theorem dL_law_462 : decode cL_law 462 = .ok (.invokevirtual 79, 3) := by decide +kernel
theorem dL_law_465 : decode cL_law 465 = .ok (.if_icmp .eq 130, 3) := by decide +kernel
theorem dL_law_468 : decode cL_law 468 = .ok (.iconst 0, 1) := by decide +kernel
theorem dL_law_469 : decode cL_law 469 = .ok (.ireturn, 1) := by decide +kernel
theorem dL_law_470 : decode cL_law 470 = .ok (.aload_n 1, 1) := by decide +kernel
theorem dL_law_471 : decode cL_law 471 = .ok (.aload_n 0, 1) := by decide +kernel
theorem dL_law_472 : decode cL_law 472 = .ok (.iload_n 3, 1) := by decide +kernel
theorem dL_law_473 : decode cL_law 473 = .ok (.iconst 1, 1) := by decide +kernel
theorem dL_law_474 : decode cL_law 474 = .ok (.iadd, 1) := by decide +kernel
theorem dL_law_475 : decode cL_law 475 = .ok (.iaload, 1) := by decide +kernel
theorem dL_law_476 : decode cL_law 476 = .ok (.invokevirtual 80, 3) := by decide +kernel
theorem dL_law_479 : decode cL_law 479 = .ok (.aload_n 2, 1) := by decide +kernel
theorem dL_law_480 : decode cL_law 480 = .ok (.aload_n 0, 1) := by decide +kernel
theorem dL_law_481 : decode cL_law 481 = .ok (.iload_n 3, 1) := by decide +kernel
theorem dL_law_482 : decode cL_law 482 = .ok (.iconst 1, 1) := by decide +kernel
theorem dL_law_483 : decode cL_law 483 = .ok (.iadd, 1) := by decide +kernel
theorem dL_law_484 : decode cL_law 484 = .ok (.iaload, 1) := by decide +kernel
theorem dL_law_485 : decode cL_law 485 = .ok (.invokevirtual 83, 3) := by decide +kernel
theorem dL_law_488 : decode cL_law 488 = .ok (.if_icmp .eq 107, 3) := by decide +kernel
theorem dL_law_491 : decode cL_law 491 = .ok (.iconst 0, 1) := by decide +kernel
theorem dL_law_492 : decode cL_law 492 = .ok (.ireturn, 1) := by decide +kernel
theorem dL_law_493 : decode cL_law 493 = .ok (.aload_n 1, 1) := by decide +kernel
theorem dL_law_494 : decode cL_law 494 = .ok (.aload_n 0, 1) := by decide +kernel
theorem dL_law_495 : decode cL_law 495 = .ok (.iload_n 3, 1) := by decide +kernel
theorem dL_law_496 : decode cL_law 496 = .ok (.iconst 1, 1) := by decide +kernel
theorem dL_law_497 : decode cL_law 497 = .ok (.iadd, 1) := by decide +kernel
theorem dL_law_498 : decode cL_law 498 = .ok (.iaload, 1) := by decide +kernel
theorem dL_law_499 : decode cL_law 499 = .ok (.aload_n 0, 1) := by decide +kernel
theorem dL_law_500 : decode cL_law 500 = .ok (.iload_n 3, 1) := by decide +kernel
theorem dL_law_501 : decode cL_law 501 = .ok (.iconst 2, 1) := by decide +kernel
theorem dL_law_502 : decode cL_law 502 = .ok (.iadd, 1) := by decide +kernel
theorem dL_law_503 : decode cL_law 503 = .ok (.iaload, 1) := by decide +kernel
theorem dL_law_504 : decode cL_law 504 = .ok (.invokevirtual 84, 3) := by decide +kernel
theorem dL_law_507 : decode cL_law 507 = .ok (.aload_n 2, 1) := by decide +kernel
theorem dL_law_508 : decode cL_law 508 = .ok (.aload_n 0, 1) := by decide +kernel
theorem dL_law_509 : decode cL_law 509 = .ok (.iload_n 3, 1) := by decide +kernel
theorem dL_law_510 : decode cL_law 510 = .ok (.iconst 1, 1) := by decide +kernel
theorem dL_law_511 : decode cL_law 511 = .ok (.iadd, 1) := by decide +kernel
theorem dL_law_512 : decode cL_law 512 = .ok (.iaload, 1) := by decide +kernel
theorem dL_law_513 : decode cL_law 513 = .ok (.aload_n 0, 1) := by decide +kernel
theorem dL_law_514 : decode cL_law 514 = .ok (.iload_n 3, 1) := by decide +kernel
theorem dL_law_515 : decode cL_law 515 = .ok (.iconst 2, 1) := by decide +kernel
theorem dL_law_516 : decode cL_law 516 = .ok (.iadd, 1) := by decide +kernel
theorem dL_law_517 : decode cL_law 517 = .ok (.iaload, 1) := by decide +kernel
theorem dL_law_518 : decode cL_law 518 = .ok (.invokevirtual 88, 3) := by decide +kernel
theorem dL_law_521 : decode cL_law 521 = .ok (.if_icmp .eq 74, 3) := by decide +kernel
theorem dL_law_524 : decode cL_law 524 = .ok (.iconst 0, 1) := by decide +kernel
theorem dL_law_525 : decode cL_law 525 = .ok (.ireturn, 1) := by decide +kernel
theorem dL_law_526 : decode cL_law 526 = .ok (.aload_n 1, 1) := by decide +kernel
theorem dL_law_527 : decode cL_law 527 = .ok (.aload_n 0, 1) := by decide +kernel
theorem dL_law_528 : decode cL_law 528 = .ok (.iload_n 3, 1) := by decide +kernel
theorem dL_law_529 : decode cL_law 529 = .ok (.iconst 1, 1) := by decide +kernel
theorem dL_law_530 : decode cL_law 530 = .ok (.iadd, 1) := by decide +kernel
theorem dL_law_531 : decode cL_law 531 = .ok (.iaload, 1) := by decide +kernel
theorem dL_law_532 : decode cL_law 532 = .ok (.invokevirtual 89, 3) := by decide +kernel
theorem dL_law_535 : decode cL_law 535 = .ok (.aload_n 2, 1) := by decide +kernel
theorem dL_law_536 : decode cL_law 536 = .ok (.aload_n 0, 1) := by decide +kernel
theorem dL_law_537 : decode cL_law 537 = .ok (.iload_n 3, 1) := by decide +kernel
theorem dL_law_538 : decode cL_law 538 = .ok (.iconst 1, 1) := by decide +kernel
theorem dL_law_539 : decode cL_law 539 = .ok (.iadd, 1) := by decide +kernel
theorem dL_law_540 : decode cL_law 540 = .ok (.iaload, 1) := by decide +kernel
theorem dL_law_541 : decode cL_law 541 = .ok (.invokevirtual 92, 3) := by decide +kernel
theorem dL_law_544 : decode cL_law 544 = .ok (.if_icmp .eq 51, 3) := by decide +kernel
theorem dL_law_547 : decode cL_law 547 = .ok (.iconst 0, 1) := by decide +kernel
theorem dL_law_548 : decode cL_law 548 = .ok (.ireturn, 1) := by decide +kernel
theorem dL_law_549 : decode cL_law 549 = .ok (.aload_n 1, 1) := by decide +kernel
theorem dL_law_550 : decode cL_law 550 = .ok (.aload_n 0, 1) := by decide +kernel
theorem dL_law_551 : decode cL_law 551 = .ok (.iload_n 3, 1) := by decide +kernel
theorem dL_law_552 : decode cL_law 552 = .ok (.iconst 1, 1) := by decide +kernel
theorem dL_law_553 : decode cL_law 553 = .ok (.iadd, 1) := by decide +kernel
theorem dL_law_554 : decode cL_law 554 = .ok (.iaload, 1) := by decide +kernel
theorem dL_law_555 : decode cL_law 555 = .ok (.invokevirtual 93, 3) := by decide +kernel
theorem dL_law_558 : decode cL_law 558 = .ok (.aload_n 2, 1) := by decide +kernel
theorem dL_law_559 : decode cL_law 559 = .ok (.aload_n 0, 1) := by decide +kernel
theorem dL_law_560 : decode cL_law 560 = .ok (.iload_n 3, 1) := by decide +kernel
theorem dL_law_561 : decode cL_law 561 = .ok (.iconst 1, 1) := by decide +kernel
theorem dL_law_562 : decode cL_law 562 = .ok (.iadd, 1) := by decide +kernel
theorem dL_law_563 : decode cL_law 563 = .ok (.iaload, 1) := by decide +kernel
theorem dL_law_564 : decode cL_law 564 = .ok (.invokevirtual 96, 3) := by decide +kernel
theorem dL_law_567 : decode cL_law 567 = .ok (.if_icmp .eq 28, 3) := by decide +kernel
theorem dL_law_570 : decode cL_law 570 = .ok (.iconst 0, 1) := by decide +kernel
theorem dL_law_571 : decode cL_law 571 = .ok (.ireturn, 1) := by decide +kernel
theorem dL_law_572 : decode cL_law 572 = .ok (.aload_n 1, 1) := by decide +kernel
theorem dL_law_573 : decode cL_law 573 = .ok (.aload_n 0, 1) := by decide +kernel
theorem dL_law_574 : decode cL_law 574 = .ok (.iload_n 3, 1) := by decide +kernel
theorem dL_law_575 : decode cL_law 575 = .ok (.iconst 1, 1) := by decide +kernel
theorem dL_law_576 : decode cL_law 576 = .ok (.iadd, 1) := by decide +kernel
theorem dL_law_577 : decode cL_law 577 = .ok (.iaload, 1) := by decide +kernel
theorem dL_law_578 : decode cL_law 578 = .ok (.invokevirtual 97, 3) := by decide +kernel
theorem dL_law_581 : decode cL_law 581 = .ok (.aload_n 2, 1) := by decide +kernel
theorem dL_law_582 : decode cL_law 582 = .ok (.aload_n 0, 1) := by decide +kernel
theorem dL_law_583 : decode cL_law 583 = .ok (.iload_n 3, 1) := by decide +kernel
theorem dL_law_584 : decode cL_law 584 = .ok (.iconst 1, 1) := by decide +kernel
theorem dL_law_585 : decode cL_law 585 = .ok (.iadd, 1) := by decide +kernel
theorem dL_law_586 : decode cL_law 586 = .ok (.iaload, 1) := by decide +kernel
theorem dL_law_587 : decode cL_law 587 = .ok (.invokevirtual 100, 3) := by decide +kernel
theorem dL_law_590 : decode cL_law 590 = .ok (.if_icmp .eq 5, 3) := by decide +kernel
theorem dL_law_593 : decode cL_law 593 = .ok (.iconst 0, 1) := by decide +kernel
theorem dL_law_594 : decode cL_law 594 = .ok (.ireturn, 1) := by decide +kernel
theorem dL_law_595 : decode cL_law 595 = .ok (.iinc 3 4, 3) := by decide +kernel
theorem dL_law_598 : decode cL_law 598 = .ok (.goto (-580), 3) := by decide +kernel
theorem dL_law_601 : decode cL_law 601 = .ok (.iconst 1, 1) := by decide +kernel
theorem dL_law_602 : decode cL_law 602 = .ok (.ireturn, 1) := by decide +kernel
