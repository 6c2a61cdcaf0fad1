theorem dX0_init_0 : decode cX0_init 0 = .ok (.aload_n 0, 1) := by decide +kernel
theorem dX0_init_1 : decode cX0_init 1 = .ok (.invokespecial 1, 3) := by decide +kernel
theorem dX0_init_4 : decode cX0_init 4 = .ok (.aload_n 0, 1) := by decide +kernel
theorem dX0_init_5 : decode cX0_init 5 = .ok (.iconst 0, 1) := by decide +kernel
theorem dX0_init_6 : decode cX0_init 6 = .ok (.newarray .int, 2) := by decide +kernel
theorem dX0_init_8 : decode cX0_init 8 = .ok (.putfield 7, 3) := by decide +kernel
theorem dX0_init_11 : decode cX0_init 11 = .ok (.aload_n 0, 1) := by decide +kernel
theorem dX0_init_12 : decode cX0_init 12 = .ok (.aload_n 1, 1) := by decide +kernel
theorem dX0_init_13 : decode cX0_init 13 = .ok (.putfield 13, 3) := by decide +kernel
theorem dX0_init_16 : decode cX0_init 16 = .ok (.aload_n 0, 1) := by decide +kernel
theorem dX0_init_17 : decode cX0_init 17 = .ok (.aload_n 2, 1) := by decide +kernel
theorem dX0_init_18 : decode cX0_init 18 = .ok (.putfield 17, 3) := by decide +kernel
theorem dX0_init_21 : decode cX0_init 21 = .ok (.return_, 1) := by decide +kernel
theorem dX0_forgetLeaves_0 : decode cX0_forgetLeaves 0 = .ok (.aload_n 0, 1) := by decide +kernel
theorem dX0_forgetLeaves_1 : decode cX0_forgetLeaves 1 = .ok (.getfield 17, 3) := by decide +kernel
theorem dX0_forgetLeaves_4 : decode cX0_forgetLeaves 4 = .ok (.astore_n 1, 1) := by decide +kernel
theorem dX0_forgetLeaves_5 : decode cX0_forgetLeaves 5 = .ok (.aload_n 1, 1) := by decide +kernel
theorem dX0_forgetLeaves_6 : decode cX0_forgetLeaves 6 = .ok (.arraylength, 1) := by decide +kernel
theorem dX0_forgetLeaves_7 : decode cX0_forgetLeaves 7 = .ok (.istore_n 2, 1) := by decide +kernel
theorem dX0_forgetLeaves_8 : decode cX0_forgetLeaves 8 = .ok (.iconst 0, 1) := by decide +kernel
theorem dX0_forgetLeaves_9 : decode cX0_forgetLeaves 9 = .ok (.istore_n 3, 1) := by decide +kernel
theorem dX0_forgetLeaves_10 : decode cX0_forgetLeaves 10 = .ok (.iload_n 3, 1) := by decide +kernel
theorem dX0_forgetLeaves_11 : decode cX0_forgetLeaves 11 = .ok (.iload_n 2, 1) := by decide +kernel
theorem dX0_forgetLeaves_12 : decode cX0_forgetLeaves 12 = .ok (.if_icmp .ge 26, 3) := by decide +kernel
theorem dX0_forgetLeaves_15 : decode cX0_forgetLeaves 15 = .ok (.aload_n 1, 1) := by decide +kernel
theorem dX0_forgetLeaves_16 : decode cX0_forgetLeaves 16 = .ok (.iload_n 3, 1) := by decide +kernel
theorem dX0_forgetLeaves_17 : decode cX0_forgetLeaves 17 = .ok (.aaload, 1) := by decide +kernel
theorem dX0_forgetLeaves_18 : decode cX0_forgetLeaves 18 = .ok (.astore 4, 2) := by decide +kernel
theorem dX0_forgetLeaves_20 : decode cX0_forgetLeaves 20 = .ok (.aload 4, 2) := by decide +kernel
theorem dX0_forgetLeaves_22 : decode cX0_forgetLeaves 22 = .ok (.iconst 0, 1) := by decide +kernel
theorem dX0_forgetLeaves_23 : decode cX0_forgetLeaves 23 = .ok (.putfield 21, 3) := by decide +kernel
theorem dX0_forgetLeaves_26 : decode cX0_forgetLeaves 26 = .ok (.aload 4, 2) := by decide +kernel
theorem dX0_forgetLeaves_28 : decode cX0_forgetLeaves 28 = .ok (.iconst 0, 1) := by decide +kernel
theorem dX0_forgetLeaves_29 : decode cX0_forgetLeaves 29 = .ok (.putfield 27, 3) := by decide +kernel
theorem dX0_forgetLeaves_32 : decode cX0_forgetLeaves 32 = .ok (.iinc 3 1, 3) := by decide +kernel
theorem dX0_forgetLeaves_35 : decode cX0_forgetLeaves 35 = .ok (.goto (-25), 3) := by decide +kernel
theorem dX0_forgetLeaves_38 : decode cX0_forgetLeaves 38 = .ok (.return_, 1) := by decide +kernel
theorem dX0_gatherRound_0 : decode cX0_gatherRound 0 = .ok (.iconst 0, 1) := by decide +kernel
theorem dX0_gatherRound_1 : decode cX0_gatherRound 1 = .ok (.istore_n 2, 1) := by decide +kernel
theorem dX0_gatherRound_2 : decode cX0_gatherRound 2 = .ok (.aload_n 0, 1) := by decide +kernel
theorem dX0_gatherRound_3 : decode cX0_gatherRound 3 = .ok (.getfield 17, 3) := by decide +kernel
theorem dX0_gatherRound_6 : decode cX0_gatherRound 6 = .ok (.arraylength, 1) := by decide +kernel
theorem dX0_gatherRound_7 : decode cX0_gatherRound 7 = .ok (.iconst 1, 1) := by decide +kernel
theorem dX0_gatherRound_8 : decode cX0_gatherRound 8 = .ok (.isub, 1) := by decide +kernel
theorem dX0_gatherRound_9 : decode cX0_gatherRound 9 = .ok (.istore_n 3, 1) := by decide +kernel
theorem dX0_gatherRound_10 : decode cX0_gatherRound 10 = .ok (.iload_n 3, 1) := by decide +kernel
theorem dX0_gatherRound_11 : decode cX0_gatherRound 11 = .ok (.ifCond .lt 24, 3) := by decide +kernel
theorem dX0_gatherRound_14 : decode cX0_gatherRound 14 = .ok (.aload_n 0, 1) := by decide +kernel
theorem dX0_gatherRound_15 : decode cX0_gatherRound 15 = .ok (.getfield 17, 3) := by decide +kernel
theorem dX0_gatherRound_18 : decode cX0_gatherRound 18 = .ok (.iload_n 3, 1) := by decide +kernel
theorem dX0_gatherRound_19 : decode cX0_gatherRound 19 = .ok (.aaload, 1) := by decide +kernel
theorem dX0_gatherRound_20 : decode cX0_gatherRound 20 = .ok (.aload_n 1, 1) := by decide +kernel
theorem dX0_gatherRound_21 : decode cX0_gatherRound 21 = .ok (.invokevirtual 30, 3) := by decide +kernel
theorem dX0_gatherRound_24 : decode cX0_gatherRound 24 = .ok (.ifCond .eq 5, 3) := by decide +kernel
theorem dX0_gatherRound_27 : decode cX0_gatherRound 27 = .ok (.iconst 1, 1) := by decide +kernel
theorem dX0_gatherRound_28 : decode cX0_gatherRound 28 = .ok (.istore_n 2, 1) := by decide +kernel
theorem dX0_gatherRound_29 : decode cX0_gatherRound 29 = .ok (.iinc 3 (-1), 3) := by decide +kernel
theorem dX0_gatherRound_32 : decode cX0_gatherRound 32 = .ok (.goto (-22), 3) := by decide +kernel
theorem dX0_gatherRound_35 : decode cX0_gatherRound 35 = .ok (.iload_n 2, 1) := by decide +kernel
theorem dX0_gatherRound_36 : decode cX0_gatherRound 36 = .ok (.ireturn, 1) := by decide +kernel
theorem dX1_init_0 : decode cX1_init 0 = .ok (.aload_n 0, 1) := by decide +kernel
theorem dX1_init_1 : decode cX1_init 1 = .ok (.invokespecial 3, 3) := by decide +kernel
theorem dX1_init_4 : decode cX1_init 4 = .ok (.aload_n 0, 1) := by decide +kernel
theorem dX1_init_5 : decode cX1_init 5 = .ok (.iload_n 1, 1) := by decide +kernel
theorem dX1_init_6 : decode cX1_init 6 = .ok (.putfield 9, 3) := by decide +kernel
theorem dX1_init_9 : decode cX1_init 9 = .ok (.iload_n 1, 1) := by decide +kernel
theorem dX1_init_10 : decode cX1_init 10 = .ok (.bipush 123, 2) := by decide +kernel
theorem dX1_init_12 : decode cX1_init 12 = .ok (.if_icmp .ne 20, 3) := by decide +kernel
theorem dX1_init_15 : decode cX1_init 15 = .ok (.aload_n 0, 1) := by decide +kernel
theorem dX1_init_16 : decode cX1_init 16 = .ok (.bipush 7, 2) := by decide +kernel
theorem dX1_init_18 : decode cX1_init 18 = .ok (.anewarray 10, 3) := by decide +kernel
theorem dX1_init_21 : decode cX1_init 21 = .ok (.putfield 15, 3) := by decide +kernel
theorem dX1_init_24 : decode cX1_init 24 = .ok (.aload_n 0, 1) := by decide +kernel
theorem dX1_init_25 : decode cX1_init 25 = .ok (.bipush 7, 2) := by decide +kernel
theorem dX1_init_27 : decode cX1_init 27 = .ok (.newarray .int, 2) := by decide +kernel
theorem dX1_init_29 : decode cX1_init 29 = .ok (.putfield 19, 3) := by decide +kernel
theorem dX1_init_32 : decode cX1_init 32 = .ok (.return_, 1) := by decide +kernel
theorem dX1_parts_0 : decode cX1_parts 0 = .ok (.aload_n 0, 1) := by decide +kernel
theorem dX1_parts_1 : decode cX1_parts 1 = .ok (.getfield 9, 3) := by decide +kernel
theorem dX1_parts_4 : decode cX1_parts 4 = .ok (.lookupswitch 98 #[(37, 96), (42, 96), (43, 96), (45, 96), (48, 92), (59, 96), (60, 96), (61, 96), (63, 94), (97, 92)], 92) := by decide +kernel
theorem dX1_parts_96 : decode cX1_parts 96 = .ok (.iconst 0, 1) := by decide +kernel
theorem dX1_parts_97 : decode cX1_parts 97 = .ok (.ireturn, 1) := by decide +kernel
theorem dX1_parts_98 : decode cX1_parts 98 = .ok (.iconst 3, 1) := by decide +kernel
theorem dX1_parts_99 : decode cX1_parts 99 = .ok (.ireturn, 1) := by decide +kernel
theorem dX1_parts_100 : decode cX1_parts 100 = .ok (.iconst 2, 1) := by decide +kernel
theorem dX1_parts_101 : decode cX1_parts 101 = .ok (.ireturn, 1) := by decide +kernel
theorem dX1_parts_102 : decode cX1_parts 102 = .ok (.iconst 1, 1) := by decide +kernel
theorem dX1_parts_103 : decode cX1_parts 103 = .ok (.ireturn, 1) := by decide +kernel
theorem dX1_kindOfFrame_0 : decode cX1_kindOfFrame 0 = .ok (.aload_n 0, 1) := by decide +kernel
theorem dX1_kindOfFrame_1 : decode cX1_kindOfFrame 1 = .ok (.getfield 9, 3) := by decide +kernel
theorem dX1_kindOfFrame_4 : decode cX1_kindOfFrame 4 = .ok (.lookupswitch 119 #[(33, 98), (37, 107), (38, 110), (59, 94), (61, 96), (63, 92), (64, 113), (94, 101), (123, 116), (126, 104)], 92) := by decide +kernel
theorem dX1_kindOfFrame_96 : decode cX1_kindOfFrame 96 = .ok (.iconst 3, 1) := by decide +kernel
theorem dX1_kindOfFrame_97 : decode cX1_kindOfFrame 97 = .ok (.ireturn, 1) := by decide +kernel
theorem dX1_kindOfFrame_98 : decode cX1_kindOfFrame 98 = .ok (.iconst 4, 1) := by decide +kernel
theorem dX1_kindOfFrame_99 : decode cX1_kindOfFrame 99 = .ok (.ireturn, 1) := by decide +kernel
theorem dX1_kindOfFrame_100 : decode cX1_kindOfFrame 100 = .ok (.iconst 5, 1) := by decide +kernel
theorem dX1_kindOfFrame_101 : decode cX1_kindOfFrame 101 = .ok (.ireturn, 1) := by decide +kernel
theorem dX1_kindOfFrame_102 : decode cX1_kindOfFrame 102 = .ok (.bipush 6, 2) := by decide +kernel
theorem dX1_kindOfFrame_104 : decode cX1_kindOfFrame 104 = .ok (.ireturn, 1) := by decide +kernel
theorem dX1_kindOfFrame_105 : decode cX1_kindOfFrame 105 = .ok (.bipush 7, 2) := by decide +kernel
theorem dX1_kindOfFrame_107 : decode cX1_kindOfFrame 107 = .ok (.ireturn, 1) := by decide +kernel
theorem dX1_kindOfFrame_108 : decode cX1_kindOfFrame 108 = .ok (.bipush 8, 2) := by decide +kernel
theorem dX1_kindOfFrame_110 : decode cX1_kindOfFrame 110 = .ok (.ireturn, 1) := by decide +kernel
theorem dX1_kindOfFrame_111 : decode cX1_kindOfFrame 111 = .ok (.bipush 9, 2) := by decide +kernel
theorem dX1_kindOfFrame_113 : decode cX1_kindOfFrame 113 = .ok (.ireturn, 1) := by decide +kernel
theorem dX1_kindOfFrame_114 : decode cX1_kindOfFrame 114 = .ok (.bipush 10, 2) := by decide +kernel
theorem dX1_kindOfFrame_116 : decode cX1_kindOfFrame 116 = .ok (.ireturn, 1) := by decide +kernel
theorem dX1_kindOfFrame_117 : decode cX1_kindOfFrame 117 = .ok (.bipush 11, 2) := by decide +kernel
theorem dX1_kindOfFrame_119 : decode cX1_kindOfFrame 119 = .ok (.ireturn, 1) := by decide +kernel
theorem dX1_kindOfFrame_120 : decode cX1_kindOfFrame 120 = .ok (.bipush 12, 2) := by decide +kernel
theorem dX1_kindOfFrame_122 : decode cX1_kindOfFrame 122 = .ok (.ireturn, 1) := by decide +kernel
theorem dX1_kindOfFrame_123 : decode cX1_kindOfFrame 123 = .ok (.iconst 1, 1) := by decide +kernel
theorem dX1_kindOfFrame_124 : decode cX1_kindOfFrame 124 = .ok (.ireturn, 1) := by decide +kernel
theorem dX1_clause_0 : decode cX1_clause 0 = .ok (.aload_n 0, 1) := by decide +kernel
theorem dX1_clause_1 : decode cX1_clause 1 = .ok (.getfield 15, 3) := by decide +kernel
theorem dX1_clause_4 : decode cX1_clause 4 = .ok (.ifnull 25, 3) := by decide +kernel
theorem dX1_clause_7 : decode cX1_clause 7 = .ok (.iload_n 1, 1) := by decide +kernel
theorem dX1_clause_8 : decode cX1_clause 8 = .ok (.ifCond .lt 21, 3) := by decide +kernel
theorem dX1_clause_11 : decode cX1_clause 11 = .ok (.iload_n 1, 1) := by decide +kernel
theorem dX1_clause_12 : decode cX1_clause 12 = .ok (.aload_n 0, 1) := by decide +kernel
theorem dX1_clause_13 : decode cX1_clause 13 = .ok (.getfield 15, 3) := by decide +kernel
theorem dX1_clause_16 : decode cX1_clause 16 = .ok (.arraylength, 1) := by decide +kernel
theorem dX1_clause_17 : decode cX1_clause 17 = .ok (.if_icmp .ge 12, 3) := by decide +kernel
theorem dX1_clause_20 : decode cX1_clause 20 = .ok (.aload_n 0, 1) := by decide +kernel
theorem dX1_clause_21 : decode cX1_clause 21 = .ok (.getfield 15, 3) := by decide +kernel
theorem dX1_clause_24 : decode cX1_clause 24 = .ok (.iload_n 1, 1) := by decide +kernel
theorem dX1_clause_25 : decode cX1_clause 25 = .ok (.aaload, 1) := by decide +kernel
theorem dX1_clause_26 : decode cX1_clause 26 = .ok (.goto 4, 3) := by decide +kernel
theorem dX1_clause_29 : decode cX1_clause 29 = .ok (.aconst_null, 1) := by decide +kernel
theorem dX1_clause_30 : decode cX1_clause 30 = .ok (.areturn, 1) := by decide +kernel
theorem dX1_clauseVariable_0 : decode cX1_clauseVariable 0 = .ok (.aload_n 0, 1) := by decide +kernel
theorem dX1_clauseVariable_1 : decode cX1_clauseVariable 1 = .ok (.getfield 19, 3) := by decide +kernel
theorem dX1_clauseVariable_4 : decode cX1_clauseVariable 4 = .ok (.ifnull 25, 3) := by decide +kernel
theorem dX1_clauseVariable_7 : decode cX1_clauseVariable 7 = .ok (.iload_n 1, 1) := by decide +kernel
theorem dX1_clauseVariable_8 : decode cX1_clauseVariable 8 = .ok (.ifCond .lt 21, 3) := by decide +kernel
theorem dX1_clauseVariable_11 : decode cX1_clauseVariable 11 = .ok (.iload_n 1, 1) := by decide +kernel
theorem dX1_clauseVariable_12 : decode cX1_clauseVariable 12 = .ok (.aload_n 0, 1) := by decide +kernel
theorem dX1_clauseVariable_13 : decode cX1_clauseVariable 13 = .ok (.getfield 19, 3) := by decide +kernel
theorem dX1_clauseVariable_16 : decode cX1_clauseVariable 16 = .ok (.arraylength, 1) := by decide +kernel
theorem dX1_clauseVariable_17 : decode cX1_clauseVariable 17 = .ok (.if_icmp .ge 12, 3) := by decide +kernel
theorem dX1_clauseVariable_20 : decode cX1_clauseVariable 20 = .ok (.aload_n 0, 1) := by decide +kernel
theorem dX1_clauseVariable_21 : decode cX1_clauseVariable 21 = .ok (.getfield 19, 3) := by decide +kernel
theorem dX1_clauseVariable_24 : decode cX1_clauseVariable 24 = .ok (.iload_n 1, 1) := by decide +kernel
theorem dX1_clauseVariable_25 : decode cX1_clauseVariable 25 = .ok (.iaload, 1) := by decide +kernel
theorem dX1_clauseVariable_26 : decode cX1_clauseVariable 26 = .ok (.goto 4, 3) := by decide +kernel
theorem dX1_clauseVariable_29 : decode cX1_clauseVariable 29 = .ok (.iconst 0, 1) := by decide +kernel
theorem dX1_clauseVariable_30 : decode cX1_clauseVariable 30 = .ok (.ireturn, 1) := by decide +kernel
theorem dX1_countOperationClauses_0 : decode cX1_countOperationClauses 0 = .ok (.iconst 0, 1) := by decide +kernel
theorem dX1_countOperationClauses_1 : decode cX1_countOperationClauses 1 = .ok (.istore_n 1, 1) := by decide +kernel
theorem dX1_countOperationClauses_2 : decode cX1_countOperationClauses 2 = .ok (.iconst 0, 1) := by decide +kernel
theorem dX1_countOperationClauses_3 : decode cX1_countOperationClauses 3 = .ok (.istore_n 2, 1) := by decide +kernel
theorem dX1_countOperationClauses_4 : decode cX1_countOperationClauses 4 = .ok (.iload_n 2, 1) := by decide +kernel
theorem dX1_countOperationClauses_5 : decode cX1_countOperationClauses 5 = .ok (.bipush 6, 2) := by decide +kernel
theorem dX1_countOperationClauses_7 : decode cX1_countOperationClauses 7 = .ok (.if_icmp .ge 20, 3) := by decide +kernel
theorem dX1_countOperationClauses_10 : decode cX1_countOperationClauses 10 = .ok (.aload_n 0, 1) := by decide +kernel
theorem dX1_countOperationClauses_11 : decode cX1_countOperationClauses 11 = .ok (.iload_n 2, 1) := by decide +kernel
theorem dX1_countOperationClauses_12 : decode cX1_countOperationClauses 12 = .ok (.invokevirtual 23, 3) := by decide +kernel
theorem dX1_countOperationClauses_15 : decode cX1_countOperationClauses 15 = .ok (.ifnull 6, 3) := by decide +kernel
theorem dX1_countOperationClauses_18 : decode cX1_countOperationClauses 18 = .ok (.iinc 1 1, 3) := by decide +kernel
theorem dX1_countOperationClauses_21 : decode cX1_countOperationClauses 21 = .ok (.iinc 2 1, 3) := by decide +kernel
theorem dX1_countOperationClauses_24 : decode cX1_countOperationClauses 24 = .ok (.goto (-20), 3) := by decide +kernel
theorem dX1_countOperationClauses_27 : decode cX1_countOperationClauses 27 = .ok (.iload_n 1, 1) := by decide +kernel
theorem dX1_countOperationClauses_28 : decode cX1_countOperationClauses 28 = .ok (.ireturn, 1) := by decide +kernel
theorem dX1_pair_0 : decode cX1_pair 0 = .ok (.iconst 1, 1) := by decide +kernel
theorem dX1_pair_1 : decode cX1_pair 1 = .ok (.iload_n 0, 1) := by decide +kernel
theorem dX1_pair_2 : decode cX1_pair 2 = .ok (.iconst 4, 1) := by decide +kernel
theorem dX1_pair_3 : decode cX1_pair 3 = .ok (.imul, 1) := by decide +kernel
theorem dX1_pair_4 : decode cX1_pair 4 = .ok (.iload_n 1, 1) := by decide +kernel
theorem dX1_pair_5 : decode cX1_pair 5 = .ok (.iadd, 1) := by decide +kernel
theorem dX1_pair_6 : decode cX1_pair 6 = .ok (.ishl, 1) := by decide +kernel
theorem dX1_pair_7 : decode cX1_pair 7 = .ok (.ireturn, 1) := by decide +kernel
theorem dX1_allLevels_0 : decode cX1_allLevels 0 = .ok (.bipush 15, 2) := by decide +kernel
theorem dX1_allLevels_2 : decode cX1_allLevels 2 = .ok (.iload_n 0, 1) := by decide +kernel
theorem dX1_allLevels_3 : decode cX1_allLevels 3 = .ok (.iconst 4, 1) := by decide +kernel
theorem dX1_allLevels_4 : decode cX1_allLevels 4 = .ok (.imul, 1) := by decide +kernel
theorem dX1_allLevels_5 : decode cX1_allLevels 5 = .ok (.ishl, 1) := by decide +kernel
theorem dX1_allLevels_6 : decode cX1_allLevels 6 = .ok (.ireturn, 1) := by decide +kernel
theorem dX1_leavesOf_0 : decode cX1_leavesOf 0 = .ok (.aload_n 0, 1) := by decide +kernel
theorem dX1_leavesOf_1 : decode cX1_leavesOf 1 = .ok (.ifnonnull 7, 3) := by decide +kernel
theorem dX1_leavesOf_4 : decode cX1_leavesOf 4 = .ok (.iconst 0, 1) := by decide +kernel
theorem dX1_leavesOf_5 : decode cX1_leavesOf 5 = .ok (.goto 7, 3) := by decide +kernel
theorem dX1_leavesOf_8 : decode cX1_leavesOf 8 = .ok (.aload_n 0, 1) := by decide +kernel
theorem dX1_leavesOf_9 : decode cX1_leavesOf 9 = .ok (.getfield 27, 3) := by decide +kernel
theorem dX1_leavesOf_12 : decode cX1_leavesOf 12 = .ok (.ireturn, 1) := by decide +kernel
theorem dX1_lateOf_0 : decode cX1_lateOf 0 = .ok (.aload_n 0, 1) := by decide +kernel
theorem dX1_lateOf_1 : decode cX1_lateOf 1 = .ok (.ifnonnull 7, 3) := by decide +kernel
theorem dX1_lateOf_4 : decode cX1_lateOf 4 = .ok (.iconst 0, 1) := by decide +kernel
theorem dX1_lateOf_5 : decode cX1_lateOf 5 = .ok (.goto 7, 3) := by decide +kernel
theorem dX1_lateOf_8 : decode cX1_lateOf 8 = .ok (.aload_n 0, 1) := by decide +kernel
theorem dX1_lateOf_9 : decode cX1_lateOf 9 = .ok (.getfield 30, 3) := by decide +kernel
theorem dX1_lateOf_12 : decode cX1_lateOf 12 = .ok (.ireturn, 1) := by decide +kernel
theorem dX1_raised_0 : decode cX1_raised 0 = .ok (.iload_n 0, 1) := by decide +kernel
theorem dX1_raised_1 : decode cX1_raised 1 = .ok (.iload_n 1, 1) := by decide +kernel
theorem dX1_raised_2 : decode cX1_raised 2 = .ok (.invokestatic 33, 3) := by decide +kernel
theorem dX1_raised_5 : decode cX1_raised 5 = .ok (.iand, 1) := by decide +kernel
theorem dX1_raised_6 : decode cX1_raised 6 = .ok (.istore_n 2, 1) := by decide +kernel
theorem dX1_raised_7 : decode cX1_raised 7 = .ok (.iload_n 2, 1) := by decide +kernel
theorem dX1_raised_8 : decode cX1_raised 8 = .ok (.iload_n 1, 1) := by decide +kernel
theorem dX1_raised_9 : decode cX1_raised 9 = .ok (.iconst 3, 1) := by decide +kernel
theorem dX1_raised_10 : decode cX1_raised 10 = .ok (.invokestatic 37, 3) := by decide +kernel
theorem dX1_raised_13 : decode cX1_raised 13 = .ok (.iand, 1) := by decide +kernel
theorem dX1_raised_14 : decode cX1_raised 14 = .ok (.istore_n 3, 1) := by decide +kernel
theorem dX1_raised_15 : decode cX1_raised 15 = .ok (.iload_n 0, 1) := by decide +kernel
theorem dX1_raised_16 : decode cX1_raised 16 = .ok (.iload_n 2, 1) := by decide +kernel
theorem dX1_raised_17 : decode cX1_raised 17 = .ok (.iconst (-1), 1) := by decide +kernel
theorem dX1_raised_18 : decode cX1_raised 18 = .ok (.ixor, 1) := by decide +kernel
theorem dX1_raised_19 : decode cX1_raised 19 = .ok (.iand, 1) := by decide +kernel
theorem dX1_raised_20 : decode cX1_raised 20 = .ok (.iload_n 2, 1) := by decide +kernel
theorem dX1_raised_21 : decode cX1_raised 21 = .ok (.iconst 1, 1) := by decide +kernel
theorem dX1_raised_22 : decode cX1_raised 22 = .ok (.ishl, 1) := by decide +kernel
theorem dX1_raised_23 : decode cX1_raised 23 = .ok (.iload_n 3, 1) := by decide +kernel
theorem dX1_raised_24 : decode cX1_raised 24 = .ok (.ior, 1) := by decide +kernel
theorem dX1_raised_25 : decode cX1_raised 25 = .ok (.iload_n 1, 1) := by decide +kernel
theorem dX1_raised_26 : decode cX1_raised 26 = .ok (.invokestatic 33, 3) := by decide +kernel
theorem dX1_raised_29 : decode cX1_raised 29 = .ok (.iand, 1) := by decide +kernel
theorem dX1_raised_30 : decode cX1_raised 30 = .ok (.ior, 1) := by decide +kernel
theorem dX1_raised_31 : decode cX1_raised 31 = .ok (.ireturn, 1) := by decide +kernel
theorem dX1_lowered_0 : decode cX1_lowered 0 = .ok (.iload_n 0, 1) := by decide +kernel
theorem dX1_lowered_1 : decode cX1_lowered 1 = .ok (.iload_n 1, 1) := by decide +kernel
theorem dX1_lowered_2 : decode cX1_lowered 2 = .ok (.invokestatic 33, 3) := by decide +kernel
theorem dX1_lowered_5 : decode cX1_lowered 5 = .ok (.iand, 1) := by decide +kernel
theorem dX1_lowered_6 : decode cX1_lowered 6 = .ok (.istore_n 2, 1) := by decide +kernel
theorem dX1_lowered_7 : decode cX1_lowered 7 = .ok (.iload_n 2, 1) := by decide +kernel
theorem dX1_lowered_8 : decode cX1_lowered 8 = .ok (.iload_n 1, 1) := by decide +kernel
theorem dX1_lowered_9 : decode cX1_lowered 9 = .ok (.iconst 3, 1) := by decide +kernel
theorem dX1_lowered_10 : decode cX1_lowered 10 = .ok (.invokestatic 37, 3) := by decide +kernel
theorem dX1_lowered_13 : decode cX1_lowered 13 = .ok (.iand, 1) := by decide +kernel
theorem dX1_lowered_14 : decode cX1_lowered 14 = .ok (.istore_n 3, 1) := by decide +kernel
theorem dX1_lowered_15 : decode cX1_lowered 15 = .ok (.iload_n 0, 1) := by decide +kernel
theorem dX1_lowered_16 : decode cX1_lowered 16 = .ok (.iload_n 2, 1) := by decide +kernel
theorem dX1_lowered_17 : decode cX1_lowered 17 = .ok (.iconst (-1), 1) := by decide +kernel
theorem dX1_lowered_18 : decode cX1_lowered 18 = .ok (.ixor, 1) := by decide +kernel
theorem dX1_lowered_19 : decode cX1_lowered 19 = .ok (.iand, 1) := by decide +kernel
theorem dX1_lowered_20 : decode cX1_lowered 20 = .ok (.iload_n 2, 1) := by decide +kernel
theorem dX1_lowered_21 : decode cX1_lowered 21 = .ok (.iconst 1, 1) := by decide +kernel
theorem dX1_lowered_22 : decode cX1_lowered 22 = .ok (.ishr, 1) := by decide +kernel
theorem dX1_lowered_23 : decode cX1_lowered 23 = .ok (.iload_n 1, 1) := by decide +kernel
theorem dX1_lowered_24 : decode cX1_lowered 24 = .ok (.invokestatic 33, 3) := by decide +kernel
theorem dX1_lowered_27 : decode cX1_lowered 27 = .ok (.iand, 1) := by decide +kernel
theorem dX1_lowered_28 : decode cX1_lowered 28 = .ok (.ior, 1) := by decide +kernel
theorem dX1_lowered_29 : decode cX1_lowered 29 = .ok (.iload_n 3, 1) := by decide +kernel
theorem dX1_lowered_30 : decode cX1_lowered 30 = .ok (.ior, 1) := by decide +kernel
theorem dX1_lowered_31 : decode cX1_lowered 31 = .ok (.ireturn, 1) := by decide +kernel
theorem dX1_gather_0 : decode cX1_gather 0 = .ok (.aload_n 0, 1) := by decide +kernel
theorem dX1_gather_1 : decode cX1_gather 1 = .ok (.getfield 41, 3) := by decide +kernel
theorem dX1_gather_4 : decode cX1_gather 4 = .ok (.invokestatic 45, 3) := by decide +kernel
theorem dX1_gather_7 : decode cX1_gather 7 = .ok (.aload_n 0, 1) := by decide +kernel
theorem dX1_gather_8 : decode cX1_gather 8 = .ok (.getfield 49, 3) := by decide +kernel
theorem dX1_gather_11 : decode cX1_gather 11 = .ok (.invokestatic 45, 3) := by decide +kernel
theorem dX1_gather_14 : decode cX1_gather 14 = .ok (.ior, 1) := by decide +kernel
theorem dX1_gather_15 : decode cX1_gather 15 = .ok (.aload_n 0, 1) := by decide +kernel
theorem dX1_gather_16 : decode cX1_gather 16 = .ok (.getfield 52, 3) := by decide +kernel
theorem dX1_gather_19 : decode cX1_gather 19 = .ok (.invokestatic 45, 3) := by decide +kernel
theorem dX1_gather_22 : decode cX1_gather 22 = .ok (.ior, 1) := by decide +kernel
theorem dX1_gather_23 : decode cX1_gather 23 = .ok (.istore_n 2, 1) := by decide +kernel
theorem dX1_gather_24 : decode cX1_gather 24 = .ok (.aload_n 0, 1) := by decide +kernel
theorem dX1_gather_25 : decode cX1_gather 25 = .ok (.getfield 41, 3) := by decide +kernel
theorem dX1_gather_28 : decode cX1_gather 28 = .ok (.invokestatic 55, 3) := by decide +kernel
theorem dX1_gather_31 : decode cX1_gather 31 = .ok (.aload_n 0, 1) := by decide +kernel
theorem dX1_gather_32 : decode cX1_gather 32 = .ok (.getfield 49, 3) := by decide +kernel
theorem dX1_gather_35 : decode cX1_gather 35 = .ok (.invokestatic 55, 3) := by decide +kernel
theorem dX1_gather_38 : decode cX1_gather 38 = .ok (.ior, 1) := by decide +kernel
theorem dX1_gather_39 : decode cX1_gather 39 = .ok (.aload_n 0, 1) := by decide +kernel
theorem dX1_gather_40 : decode cX1_gather 40 = .ok (.getfield 52, 3) := by decide +kernel
theorem dX1_gather_43 : decode cX1_gather 43 = .ok (.invokestatic 55, 3) := by decide +kernel
theorem dX1_gather_46 : decode cX1_gather 46 = .ok (.ior, 1) := by decide +kernel
theorem dX1_gather_47 : decode cX1_gather 47 = .ok (.istore_n 3, 1) := by decide +kernel
theorem dX1_gather_48 : decode cX1_gather 48 = .ok (.aload_n 0, 1) := by decide +kernel
theorem dX1_gather_49 : decode cX1_gather 49 = .ok (.getfield 9, 3) := by decide +kernel
theorem dX1_gather_52 : decode cX1_gather 52 = .ok (.lookupswitch 190 #[(37, 86), (38, 99), (64, 152), (94, 60), (123, 175), (126, 74)], 60) := by decide +kernel
theorem dX1_gather_112 : decode cX1_gather 112 = .ok (.iload_n 2, 1) := by decide +kernel
theorem dX1_gather_113 : decode cX1_gather 113 = .ok (.aload_n 0, 1) := by decide +kernel
theorem dX1_gather_114 : decode cX1_gather 114 = .ok (.getfield 58, 3) := by decide +kernel
theorem dX1_gather_117 : decode cX1_gather 117 = .ok (.iconst 0, 1) := by decide +kernel
theorem dX1_gather_118 : decode cX1_gather 118 = .ok (.invokestatic 37, 3) := by decide +kernel
theorem dX1_gather_121 : decode cX1_gather 121 = .ok (.ior, 1) := by decide +kernel
theorem dX1_gather_122 : decode cX1_gather 122 = .ok (.istore_n 2, 1) := by decide +kernel
theorem dX1_gather_123 : decode cX1_gather 123 = .ok (.goto 119, 3) := by decide +kernel
theorem dX1_gather_126 : decode cX1_gather 126 = .ok (.iload_n 2, 1) := by decide +kernel
theorem dX1_gather_127 : decode cX1_gather 127 = .ok (.aload_n 0, 1) := by decide +kernel
theorem dX1_gather_128 : decode cX1_gather 128 = .ok (.getfield 58, 3) := by decide +kernel
theorem dX1_gather_131 : decode cX1_gather 131 = .ok (.invokestatic 61, 3) := by decide +kernel
theorem dX1_gather_134 : decode cX1_gather 134 = .ok (.istore_n 2, 1) := by decide +kernel
theorem dX1_gather_135 : decode cX1_gather 135 = .ok (.goto 107, 3) := by decide +kernel
theorem dX1_gather_138 : decode cX1_gather 138 = .ok (.iload_n 3, 1) := by decide +kernel
theorem dX1_gather_139 : decode cX1_gather 139 = .ok (.aload_n 0, 1) := by decide +kernel
theorem dX1_gather_140 : decode cX1_gather 140 = .ok (.getfield 49, 3) := by decide +kernel
theorem dX1_gather_143 : decode cX1_gather 143 = .ok (.invokestatic 45, 3) := by decide +kernel
theorem dX1_gather_146 : decode cX1_gather 146 = .ok (.ior, 1) := by decide +kernel
theorem dX1_gather_147 : decode cX1_gather 147 = .ok (.istore_n 3, 1) := by decide +kernel
theorem dX1_gather_148 : decode cX1_gather 148 = .ok (.goto 94, 3) := by decide +kernel
theorem dX1_gather_151 : decode cX1_gather 151 = .ok (.aload_n 0, 1) := by decide +kernel
theorem dX1_gather_152 : decode cX1_gather 152 = .ok (.getfield 58, 3) := by decide +kernel
theorem dX1_gather_155 : decode cX1_gather 155 = .ok (.invokestatic 64, 3) := by decide +kernel
theorem dX1_gather_158 : decode cX1_gather 158 = .ok (.ifCond .eq 24, 3) := by decide +kernel
theorem dX1_gather_161 : decode cX1_gather 161 = .ok (.aload_n 1, 1) := by decide +kernel
theorem dX1_gather_162 : decode cX1_gather 162 = .ok (.aload_n 0, 1) := by decide +kernel
theorem dX1_gather_163 : decode cX1_gather 163 = .ok (.getfield 58, 3) := by decide +kernel
theorem dX1_gather_166 : decode cX1_gather 166 = .ok (.aaload, 1) := by decide +kernel
theorem dX1_gather_167 : decode cX1_gather 167 = .ok (.ifnull 15, 3) := by decide +kernel
theorem dX1_gather_170 : decode cX1_gather 170 = .ok (.aload_n 1, 1) := by decide +kernel
theorem dX1_gather_171 : decode cX1_gather 171 = .ok (.aload_n 0, 1) := by decide +kernel
theorem dX1_gather_172 : decode cX1_gather 172 = .ok (.getfield 58, 3) := by decide +kernel
theorem dX1_gather_175 : decode cX1_gather 175 = .ok (.aaload, 1) := by decide +kernel
theorem dX1_gather_176 : decode cX1_gather 176 = .ok (.getfield 68, 3) := by decide +kernel
theorem dX1_gather_179 : decode cX1_gather 179 = .ok (.goto 4, 3) := by decide +kernel
theorem dX1_gather_182 : decode cX1_gather 182 = .ok (.aconst_null, 1) := by decide +kernel
theorem dX1_gather_183 : decode cX1_gather 183 = .ok (.astore 4, 2) := by decide +kernel
theorem dX1_gather_185 : decode cX1_gather 185 = .ok (.iload_n 2, 1) := by decide +kernel
theorem dX1_gather_186 : decode cX1_gather 186 = .ok (.aload 4, 2) := by decide +kernel
theorem dX1_gather_188 : decode cX1_gather 188 = .ok (.invokestatic 45, 3) := by decide +kernel
theorem dX1_gather_191 : decode cX1_gather 191 = .ok (.ior, 1) := by decide +kernel
theorem dX1_gather_192 : decode cX1_gather 192 = .ok (.istore_n 2, 1) := by decide +kernel
theorem dX1_gather_193 : decode cX1_gather 193 = .ok (.iload_n 3, 1) := by decide +kernel
theorem dX1_gather_194 : decode cX1_gather 194 = .ok (.aload 4, 2) := by decide +kernel
theorem dX1_gather_196 : decode cX1_gather 196 = .ok (.invokestatic 55, 3) := by decide +kernel
theorem dX1_gather_199 : decode cX1_gather 199 = .ok (.ior, 1) := by decide +kernel
theorem dX1_gather_200 : decode cX1_gather 200 = .ok (.istore_n 3, 1) := by decide +kernel
theorem dX1_gather_201 : decode cX1_gather 201 = .ok (.goto 41, 3) := by decide +kernel
theorem dX1_gather_204 : decode cX1_gather 204 = .ok (.iload_n 2, 1) := by decide +kernel
theorem dX1_gather_205 : decode cX1_gather 205 = .ok (.aload_n 0, 1) := by decide +kernel
theorem dX1_gather_206 : decode cX1_gather 206 = .ok (.getfield 73, 3) := by decide +kernel
theorem dX1_gather_209 : decode cX1_gather 209 = .ok (.invokestatic 45, 3) := by decide +kernel
theorem dX1_gather_212 : decode cX1_gather 212 = .ok (.ior, 1) := by decide +kernel
theorem dX1_gather_213 : decode cX1_gather 213 = .ok (.istore_n 2, 1) := by decide +kernel
theorem dX1_gather_214 : decode cX1_gather 214 = .ok (.iload_n 3, 1) := by decide +kernel
theorem dX1_gather_215 : decode cX1_gather 215 = .ok (.aload_n 0, 1) := by decide +kernel
theorem dX1_gather_216 : decode cX1_gather 216 = .ok (.getfield 73, 3) := by decide +kernel
theorem dX1_gather_219 : decode cX1_gather 219 = .ok (.invokestatic 55, 3) := by decide +kernel
theorem dX1_gather_222 : decode cX1_gather 222 = .ok (.ior, 1) := by decide +kernel
theorem dX1_gather_223 : decode cX1_gather 223 = .ok (.istore_n 3, 1) := by decide +kernel
theorem dX1_gather_224 : decode cX1_gather 224 = .ok (.goto 18, 3) := by decide +kernel
theorem dX1_gather_227 : decode cX1_gather 227 = .ok (.aload_n 0, 1) := by decide +kernel
theorem dX1_gather_228 : decode cX1_gather 228 = .ok (.invokevirtual 76, 3) := by decide +kernel
theorem dX1_gather_231 : decode cX1_gather 231 = .ok (.istore_n 2, 1) := by decide +kernel
theorem dX1_gather_232 : decode cX1_gather 232 = .ok (.iload_n 3, 1) := by decide +kernel
theorem dX1_gather_233 : decode cX1_gather 233 = .ok (.aload_n 0, 1) := by decide +kernel
theorem dX1_gather_234 : decode cX1_gather 234 = .ok (.invokevirtual 80, 3) := by decide +kernel
theorem dX1_gather_237 : decode cX1_gather 237 = .ok (.ior, 1) := by decide +kernel
theorem dX1_gather_238 : decode cX1_gather 238 = .ok (.istore_n 3, 1) := by decide +kernel
theorem dX1_gather_239 : decode cX1_gather 239 = .ok (.goto 3, 3) := by decide +kernel
theorem dX1_gather_242 : decode cX1_gather 242 = .ok (.iload_n 2, 1) := by decide +kernel
theorem dX1_gather_243 : decode cX1_gather 243 = .ok (.aload_n 0, 1) := by decide +kernel
theorem dX1_gather_244 : decode cX1_gather 244 = .ok (.getfield 27, 3) := by decide +kernel
theorem dX1_gather_247 : decode cX1_gather 247 = .ok (.if_icmp .ne 11, 3) := by decide +kernel
theorem dX1_gather_250 : decode cX1_gather 250 = .ok (.iload_n 3, 1) := by decide +kernel
theorem dX1_gather_251 : decode cX1_gather 251 = .ok (.aload_n 0, 1) := by decide +kernel
theorem dX1_gather_252 : decode cX1_gather 252 = .ok (.getfield 30, 3) := by decide +kernel
theorem dX1_gather_255 : decode cX1_gather 255 = .ok (.if_icmp .eq 7, 3) := by decide +kernel
theorem dX1_gather_258 : decode cX1_gather 258 = .ok (.iconst 1, 1) := by decide +kernel
theorem dX1_gather_259 : decode cX1_gather 259 = .ok (.goto 4, 3) := by decide +kernel
theorem dX1_gather_262 : decode cX1_gather 262 = .ok (.iconst 0, 1) := by decide +kernel
theorem dX1_gather_263 : decode cX1_gather 263 = .ok (.istore 4, 2) := by decide +kernel
theorem dX1_gather_265 : decode cX1_gather 265 = .ok (.aload_n 0, 1) := by decide +kernel
theorem dX1_gather_266 : decode cX1_gather 266 = .ok (.iload_n 2, 1) := by decide +kernel
theorem dX1_gather_267 : decode cX1_gather 267 = .ok (.putfield 27, 3) := by decide +kernel
theorem dX1_gather_270 : decode cX1_gather 270 = .ok (.aload_n 0, 1) := by decide +kernel
theorem dX1_gather_271 : decode cX1_gather 271 = .ok (.iload_n 3, 1) := by decide +kernel
theorem dX1_gather_272 : decode cX1_gather 272 = .ok (.putfield 30, 3) := by decide +kernel
theorem dX1_gather_275 : decode cX1_gather 275 = .ok (.iload 4, 2) := by decide +kernel
theorem dX1_gather_277 : decode cX1_gather 277 = .ok (.ireturn, 1) := by decide +kernel
theorem dX1_leavesOfHandler_0 : decode cX1_leavesOfHandler 0 = .ok (.aload_n 0, 1) := by decide +kernel
theorem dX1_leavesOfHandler_1 : decode cX1_leavesOfHandler 1 = .ok (.getfield 41, 3) := by decide +kernel
theorem dX1_leavesOfHandler_4 : decode cX1_leavesOfHandler 4 = .ok (.invokestatic 45, 3) := by decide +kernel
theorem dX1_leavesOfHandler_7 : decode cX1_leavesOfHandler 7 = .ok (.istore_n 1, 1) := by decide +kernel
theorem dX1_leavesOfHandler_8 : decode cX1_leavesOfHandler 8 = .ok (.iconst 0, 1) := by decide +kernel
theorem dX1_leavesOfHandler_9 : decode cX1_leavesOfHandler 9 = .ok (.istore_n 2, 1) := by decide +kernel
theorem dX1_leavesOfHandler_10 : decode cX1_leavesOfHandler 10 = .ok (.iload_n 2, 1) := by decide +kernel
theorem dX1_leavesOfHandler_11 : decode cX1_leavesOfHandler 11 = .ok (.bipush 6, 2) := by decide +kernel
theorem dX1_leavesOfHandler_13 : decode cX1_leavesOfHandler 13 = .ok (.if_icmp .ge 23, 3) := by decide +kernel
theorem dX1_leavesOfHandler_16 : decode cX1_leavesOfHandler 16 = .ok (.aload_n 0, 1) := by decide +kernel
theorem dX1_leavesOfHandler_17 : decode cX1_leavesOfHandler 17 = .ok (.iload_n 2, 1) := by decide +kernel
theorem dX1_leavesOfHandler_18 : decode cX1_leavesOfHandler 18 = .ok (.invokevirtual 23, 3) := by decide +kernel
theorem dX1_leavesOfHandler_21 : decode cX1_leavesOfHandler 21 = .ok (.ifnull 9, 3) := by decide +kernel
theorem dX1_leavesOfHandler_24 : decode cX1_leavesOfHandler 24 = .ok (.iload_n 1, 1) := by decide +kernel
theorem dX1_leavesOfHandler_25 : decode cX1_leavesOfHandler 25 = .ok (.iload_n 2, 1) := by decide +kernel
theorem dX1_leavesOfHandler_26 : decode cX1_leavesOfHandler 26 = .ok (.invokestatic 83, 3) := by decide +kernel
theorem dX1_leavesOfHandler_29 : decode cX1_leavesOfHandler 29 = .ok (.istore_n 1, 1) := by decide +kernel
theorem dX1_leavesOfHandler_30 : decode cX1_leavesOfHandler 30 = .ok (.iinc 2 1, 3) := by decide +kernel
theorem dX1_leavesOfHandler_33 : decode cX1_leavesOfHandler 33 = .ok (.goto (-23), 3) := by decide +kernel
theorem dX1_leavesOfHandler_36 : decode cX1_leavesOfHandler 36 = .ok (.iload_n 1, 1) := by decide +kernel
theorem dX1_leavesOfHandler_37 : decode cX1_leavesOfHandler 37 = .ok (.aload_n 0, 1) := by decide +kernel
theorem dX1_leavesOfHandler_38 : decode cX1_leavesOfHandler 38 = .ok (.getfield 41, 3) := by decide +kernel
theorem dX1_leavesOfHandler_41 : decode cX1_leavesOfHandler 41 = .ok (.invokestatic 55, 3) := by decide +kernel
theorem dX1_leavesOfHandler_44 : decode cX1_leavesOfHandler 44 = .ok (.ior, 1) := by decide +kernel
theorem dX1_leavesOfHandler_45 : decode cX1_leavesOfHandler 45 = .ok (.istore_n 2, 1) := by decide +kernel
theorem dX1_leavesOfHandler_46 : decode cX1_leavesOfHandler 46 = .ok (.iconst 0, 1) := by decide +kernel
theorem dX1_leavesOfHandler_47 : decode cX1_leavesOfHandler 47 = .ok (.istore_n 3, 1) := by decide +kernel
theorem dX1_leavesOfHandler_48 : decode cX1_leavesOfHandler 48 = .ok (.iload_n 3, 1) := by decide +kernel
theorem dX1_leavesOfHandler_49 : decode cX1_leavesOfHandler 49 = .ok (.bipush 7, 2) := by decide +kernel
theorem dX1_leavesOfHandler_51 : decode cX1_leavesOfHandler 51 = .ok (.if_icmp .ge 20, 3) := by decide +kernel
theorem dX1_leavesOfHandler_54 : decode cX1_leavesOfHandler 54 = .ok (.iload_n 2, 1) := by decide +kernel
theorem dX1_leavesOfHandler_55 : decode cX1_leavesOfHandler 55 = .ok (.aload_n 0, 1) := by decide +kernel
theorem dX1_leavesOfHandler_56 : decode cX1_leavesOfHandler 56 = .ok (.iload_n 3, 1) := by decide +kernel
theorem dX1_leavesOfHandler_57 : decode cX1_leavesOfHandler 57 = .ok (.invokevirtual 23, 3) := by decide +kernel
theorem dX1_leavesOfHandler_60 : decode cX1_leavesOfHandler 60 = .ok (.invokestatic 45, 3) := by decide +kernel
theorem dX1_leavesOfHandler_63 : decode cX1_leavesOfHandler 63 = .ok (.ior, 1) := by decide +kernel
theorem dX1_leavesOfHandler_64 : decode cX1_leavesOfHandler 64 = .ok (.istore_n 2, 1) := by decide +kernel
theorem dX1_leavesOfHandler_65 : decode cX1_leavesOfHandler 65 = .ok (.iinc 3 1, 3) := by decide +kernel
theorem dX1_leavesOfHandler_68 : decode cX1_leavesOfHandler 68 = .ok (.goto (-20), 3) := by decide +kernel
theorem dX1_leavesOfHandler_71 : decode cX1_leavesOfHandler 71 = .ok (.iload_n 2, 1) := by decide +kernel
theorem dX1_leavesOfHandler_72 : decode cX1_leavesOfHandler 72 = .ok (.ireturn, 1) := by decide +kernel
theorem dX1_lateOfClauses_0 : decode cX1_lateOfClauses 0 = .ok (.iconst 0, 1) := by decide +kernel
theorem dX1_lateOfClauses_1 : decode cX1_lateOfClauses 1 = .ok (.istore_n 1, 1) := by decide +kernel
theorem dX1_lateOfClauses_2 : decode cX1_lateOfClauses 2 = .ok (.iconst 0, 1) := by decide +kernel
theorem dX1_lateOfClauses_3 : decode cX1_lateOfClauses 3 = .ok (.istore_n 2, 1) := by decide +kernel
theorem dX1_lateOfClauses_4 : decode cX1_lateOfClauses 4 = .ok (.iload_n 2, 1) := by decide +kernel
theorem dX1_lateOfClauses_5 : decode cX1_lateOfClauses 5 = .ok (.bipush 7, 2) := by decide +kernel
theorem dX1_lateOfClauses_7 : decode cX1_lateOfClauses 7 = .ok (.if_icmp .ge 20, 3) := by decide +kernel
theorem dX1_lateOfClauses_10 : decode cX1_lateOfClauses 10 = .ok (.iload_n 1, 1) := by decide +kernel
theorem dX1_lateOfClauses_11 : decode cX1_lateOfClauses 11 = .ok (.aload_n 0, 1) := by decide +kernel
theorem dX1_lateOfClauses_12 : decode cX1_lateOfClauses 12 = .ok (.iload_n 2, 1) := by decide +kernel
theorem dX1_lateOfClauses_13 : decode cX1_lateOfClauses 13 = .ok (.invokevirtual 23, 3) := by decide +kernel
theorem dX1_lateOfClauses_16 : decode cX1_lateOfClauses 16 = .ok (.invokestatic 55, 3) := by decide +kernel
theorem dX1_lateOfClauses_19 : decode cX1_lateOfClauses 19 = .ok (.ior, 1) := by decide +kernel
theorem dX1_lateOfClauses_20 : decode cX1_lateOfClauses 20 = .ok (.istore_n 1, 1) := by decide +kernel
theorem dX1_lateOfClauses_21 : decode cX1_lateOfClauses 21 = .ok (.iinc 2 1, 3) := by decide +kernel
theorem dX1_lateOfClauses_24 : decode cX1_lateOfClauses 24 = .ok (.goto (-20), 3) := by decide +kernel
theorem dX1_lateOfClauses_27 : decode cX1_lateOfClauses 27 = .ok (.iload_n 1, 1) := by decide +kernel
theorem dX1_lateOfClauses_28 : decode cX1_lateOfClauses 28 = .ok (.ireturn, 1) := by decide +kernel
theorem dX2_init_0 : decode cX2_init 0 = .ok (.aload_n 0, 1) := by decide +kernel
theorem dX2_init_1 : decode cX2_init 1 = .ok (.invokespecial 1, 3) := by decide +kernel
theorem dX2_init_4 : decode cX2_init 4 = .ok (.aload_n 0, 1) := by decide +kernel
theorem dX2_init_5 : decode cX2_init 5 = .ok (.iload_n 1, 1) := by decide +kernel
theorem dX2_init_6 : decode cX2_init 6 = .ok (.putfield 7, 3) := by decide +kernel
theorem dX2_init_9 : decode cX2_init 9 = .ok (.aload_n 0, 1) := by decide +kernel
theorem dX2_init_10 : decode cX2_init 10 = .ok (.aload_n 2, 1) := by decide +kernel
theorem dX2_init_11 : decode cX2_init 11 = .ok (.putfield 13, 3) := by decide +kernel
theorem dX2_init_14 : decode cX2_init 14 = .ok (.aload_n 0, 1) := by decide +kernel
theorem dX2_init_15 : decode cX2_init 15 = .ok (.aload_n 3, 1) := by decide +kernel
theorem dX2_init_16 : decode cX2_init 16 = .ok (.putfield 17, 3) := by decide +kernel
theorem dX2_init_19 : decode cX2_init 19 = .ok (.aload_n 0, 1) := by decide +kernel
theorem dX2_init_20 : decode cX2_init 20 = .ok (.iload 4, 2) := by decide +kernel
theorem dX2_init_22 : decode cX2_init 22 = .ok (.putfield 21, 3) := by decide +kernel
theorem dX2_init_25 : decode cX2_init 25 = .ok (.aload_n 0, 1) := by decide +kernel
theorem dX2_init_26 : decode cX2_init 26 = .ok (.aload 5, 2) := by decide +kernel
theorem dX2_init_28 : decode cX2_init 28 = .ok (.putfield 24, 3) := by decide +kernel
theorem dX2_init_31 : decode cX2_init 31 = .ok (.return_, 1) := by decide +kernel
theorem dX3_init_0 : decode cX3_init 0 = .ok (.aload_n 0, 1) := by decide +kernel
theorem dX3_init_1 : decode cX3_init 1 = .ok (.invokespecial 3, 3) := by decide +kernel
theorem dX3_init_4 : decode cX3_init 4 = .ok (.aload_n 0, 1) := by decide +kernel
theorem dX3_init_5 : decode cX3_init 5 = .ok (.sipush 1000, 3) := by decide +kernel
theorem dX3_init_8 : decode cX3_init 8 = .ok (.newarray .int, 2) := by decide +kernel
theorem dX3_init_10 : decode cX3_init 10 = .ok (.putfield 9, 3) := by decide +kernel
theorem dX3_init_13 : decode cX3_init 13 = .ok (.aload_n 0, 1) := by decide +kernel
theorem dX3_init_14 : decode cX3_init 14 = .ok (.sipush 1000, 3) := by decide +kernel
theorem dX3_init_17 : decode cX3_init 17 = .ok (.newarray .int, 2) := by decide +kernel
theorem dX3_init_19 : decode cX3_init 19 = .ok (.putfield 15, 3) := by decide +kernel
theorem dX3_init_22 : decode cX3_init 22 = .ok (.return_, 1) := by decide +kernel
theorem dX3_clear_0 : decode cX3_clear 0 = .ok (.aload_n 0, 1) := by decide +kernel
theorem dX3_clear_1 : decode cX3_clear 1 = .ok (.iconst 0, 1) := by decide +kernel
theorem dX3_clear_2 : decode cX3_clear 2 = .ok (.putfield 18, 3) := by decide +kernel
theorem dX3_clear_5 : decode cX3_clear 5 = .ok (.aload_n 0, 1) := by decide +kernel
theorem dX3_clear_6 : decode cX3_clear 6 = .ok (.iconst 0, 1) := by decide +kernel
theorem dX3_clear_7 : decode cX3_clear 7 = .ok (.putfield 22, 3) := by decide +kernel
theorem dX3_clear_10 : decode cX3_clear 10 = .ok (.aload_n 0, 1) := by decide +kernel
theorem dX3_clear_11 : decode cX3_clear 11 = .ok (.iconst 0, 1) := by decide +kernel
theorem dX3_clear_12 : decode cX3_clear 12 = .ok (.putfield 25, 3) := by decide +kernel
theorem dX3_clear_15 : decode cX3_clear 15 = .ok (.aload_n 0, 1) := by decide +kernel
theorem dX3_clear_16 : decode cX3_clear 16 = .ok (.iconst 0, 1) := by decide +kernel
theorem dX3_clear_17 : decode cX3_clear 17 = .ok (.putfield 28, 3) := by decide +kernel
theorem dX3_clear_20 : decode cX3_clear 20 = .ok (.aload_n 0, 1) := by decide +kernel
theorem dX3_clear_21 : decode cX3_clear 21 = .ok (.iconst 0, 1) := by decide +kernel
theorem dX3_clear_22 : decode cX3_clear 22 = .ok (.putfield 31, 3) := by decide +kernel
theorem dX3_clear_25 : decode cX3_clear 25 = .ok (.return_, 1) := by decide +kernel
theorem dX3_copyFrom_0 : decode cX3_copyFrom 0 = .ok (.aload_n 1, 1) := by decide +kernel
theorem dX3_copyFrom_1 : decode cX3_copyFrom 1 = .ok (.getfield 9, 3) := by decide +kernel
theorem dX3_copyFrom_4 : decode cX3_copyFrom 4 = .ok (.iconst 0, 1) := by decide +kernel
theorem dX3_copyFrom_5 : decode cX3_copyFrom 5 = .ok (.aload_n 0, 1) := by decide +kernel
theorem dX3_copyFrom_6 : decode cX3_copyFrom 6 = .ok (.getfield 9, 3) := by decide +kernel
theorem dX3_copyFrom_9 : decode cX3_copyFrom 9 = .ok (.iconst 0, 1) := by decide +kernel
theorem dX3_copyFrom_10 : decode cX3_copyFrom 10 = .ok (.aload_n 1, 1) := by decide +kernel
theorem dX3_copyFrom_11 : decode cX3_copyFrom 11 = .ok (.getfield 18, 3) := by decide +kernel
theorem dX3_copyFrom_14 : decode cX3_copyFrom 14 = .ok (.sipush 1000, 3) := by decide +kernel
theorem dX3_copyFrom_17 : decode cX3_copyFrom 17 = .ok (.invokestatic 34, 3) := by decide +kernel
theorem dX3_copyFrom_20 : decode cX3_copyFrom 20 = .ok (.invokestatic 40, 3) := by decide +kernel
theorem dX3_copyFrom_23 : decode cX3_copyFrom 23 = .ok (.aload_n 1, 1) := by decide +kernel
theorem dX3_copyFrom_24 : decode cX3_copyFrom 24 = .ok (.getfield 15, 3) := by decide +kernel
theorem dX3_copyFrom_27 : decode cX3_copyFrom 27 = .ok (.iconst 0, 1) := by decide +kernel
theorem dX3_copyFrom_28 : decode cX3_copyFrom 28 = .ok (.aload_n 0, 1) := by decide +kernel
theorem dX3_copyFrom_29 : decode cX3_copyFrom 29 = .ok (.getfield 15, 3) := by decide +kernel
theorem dX3_copyFrom_32 : decode cX3_copyFrom 32 = .ok (.iconst 0, 1) := by decide +kernel
theorem dX3_copyFrom_33 : decode cX3_copyFrom 33 = .ok (.aload_n 1, 1) := by decide +kernel
theorem dX3_copyFrom_34 : decode cX3_copyFrom 34 = .ok (.getfield 28, 3) := by decide +kernel
theorem dX3_copyFrom_37 : decode cX3_copyFrom 37 = .ok (.sipush 1000, 3) := by decide +kernel
theorem dX3_copyFrom_40 : decode cX3_copyFrom 40 = .ok (.invokestatic 34, 3) := by decide +kernel
theorem dX3_copyFrom_43 : decode cX3_copyFrom 43 = .ok (.invokestatic 40, 3) := by decide +kernel
theorem dX3_copyFrom_46 : decode cX3_copyFrom 46 = .ok (.aload_n 0, 1) := by decide +kernel
theorem dX3_copyFrom_47 : decode cX3_copyFrom 47 = .ok (.aload_n 1, 1) := by decide +kernel
theorem dX3_copyFrom_48 : decode cX3_copyFrom 48 = .ok (.getfield 18, 3) := by decide +kernel
theorem dX3_copyFrom_51 : decode cX3_copyFrom 51 = .ok (.putfield 18, 3) := by decide +kernel
theorem dX3_copyFrom_54 : decode cX3_copyFrom 54 = .ok (.aload_n 0, 1) := by decide +kernel
theorem dX3_copyFrom_55 : decode cX3_copyFrom 55 = .ok (.aload_n 1, 1) := by decide +kernel
theorem dX3_copyFrom_56 : decode cX3_copyFrom 56 = .ok (.getfield 22, 3) := by decide +kernel
theorem dX3_copyFrom_59 : decode cX3_copyFrom 59 = .ok (.putfield 22, 3) := by decide +kernel
theorem dX3_copyFrom_62 : decode cX3_copyFrom 62 = .ok (.aload_n 0, 1) := by decide +kernel
theorem dX3_copyFrom_63 : decode cX3_copyFrom 63 = .ok (.aload_n 1, 1) := by decide +kernel
theorem dX3_copyFrom_64 : decode cX3_copyFrom 64 = .ok (.getfield 25, 3) := by decide +kernel
theorem dX3_copyFrom_67 : decode cX3_copyFrom 67 = .ok (.putfield 25, 3) := by decide +kernel
theorem dX3_copyFrom_70 : decode cX3_copyFrom 70 = .ok (.aload_n 0, 1) := by decide +kernel
theorem dX3_copyFrom_71 : decode cX3_copyFrom 71 = .ok (.aload_n 1, 1) := by decide +kernel
theorem dX3_copyFrom_72 : decode cX3_copyFrom 72 = .ok (.getfield 28, 3) := by decide +kernel
theorem dX3_copyFrom_75 : decode cX3_copyFrom 75 = .ok (.putfield 28, 3) := by decide +kernel
theorem dX3_copyFrom_78 : decode cX3_copyFrom 78 = .ok (.aload_n 0, 1) := by decide +kernel
theorem dX3_copyFrom_79 : decode cX3_copyFrom 79 = .ok (.aload_n 1, 1) := by decide +kernel
theorem dX3_copyFrom_80 : decode cX3_copyFrom 80 = .ok (.getfield 31, 3) := by decide +kernel
theorem dX3_copyFrom_83 : decode cX3_copyFrom 83 = .ok (.putfield 31, 3) := by decide +kernel
theorem dX3_copyFrom_86 : decode cX3_copyFrom 86 = .ok (.return_, 1) := by decide +kernel
theorem dX3_isPlace_0 : decode cX3_isPlace 0 = .ok (.iload_n 0, 1) := by decide +kernel
theorem dX3_isPlace_1 : decode cX3_isPlace 1 = .ok (.ifCond .lt 14, 3) := by decide +kernel
theorem dX3_isPlace_4 : decode cX3_isPlace 4 = .ok (.iload_n 0, 1) := by decide +kernel
theorem dX3_isPlace_5 : decode cX3_isPlace 5 = .ok (.sipush 1000, 3) := by decide +kernel
theorem dX3_isPlace_8 : decode cX3_isPlace 8 = .ok (.if_icmp .ge 7, 3) := by decide +kernel
theorem dX3_isPlace_11 : decode cX3_isPlace 11 = .ok (.iconst 1, 1) := by decide +kernel
theorem dX3_isPlace_12 : decode cX3_isPlace 12 = .ok (.goto 4, 3) := by decide +kernel
theorem dX3_isPlace_15 : decode cX3_isPlace 15 = .ok (.iconst 0, 1) := by decide +kernel
theorem dX3_isPlace_16 : decode cX3_isPlace 16 = .ok (.ireturn, 1) := by decide +kernel
theorem dX3_newResumption_0 : decode cX3_newResumption 0 = .ok (.new 46, 3) := by decide +kernel
theorem dX3_newResumption_3 : decode cX3_newResumption 3 = .ok (.dup, 1) := by decide +kernel
theorem dX3_newResumption_4 : decode cX3_newResumption 4 = .ok (.aload_n 0, 1) := by decide +kernel
theorem dX3_newResumption_5 : decode cX3_newResumption 5 = .ok (.getfield 18, 3) := by decide +kernel
theorem dX3_newResumption_8 : decode cX3_newResumption 8 = .ok (.aload_n 1, 1) := by decide +kernel
theorem dX3_newResumption_9 : decode cX3_newResumption 9 = .ok (.invokespecial 48, 3) := by decide +kernel
theorem dX3_newResumption_12 : decode cX3_newResumption 12 = .ok (.astore_n 2, 1) := by decide +kernel
theorem dX3_newResumption_13 : decode cX3_newResumption 13 = .ok (.aload_n 0, 1) := by decide +kernel
theorem dX3_newResumption_14 : decode cX3_newResumption 14 = .ok (.getfield 18, 3) := by decide +kernel
theorem dX3_newResumption_17 : decode cX3_newResumption 17 = .ok (.invokestatic 51, 3) := by decide +kernel
theorem dX3_newResumption_20 : decode cX3_newResumption 20 = .ok (.ifCond .eq 13, 3) := by decide +kernel
theorem dX3_newResumption_23 : decode cX3_newResumption 23 = .ok (.aload_n 0, 1) := by decide +kernel
theorem dX3_newResumption_24 : decode cX3_newResumption 24 = .ok (.getfield 9, 3) := by decide +kernel
theorem dX3_newResumption_27 : decode cX3_newResumption 27 = .ok (.aload_n 0, 1) := by decide +kernel
theorem dX3_newResumption_28 : decode cX3_newResumption 28 = .ok (.getfield 18, 3) := by decide +kernel
theorem dX3_newResumption_31 : decode cX3_newResumption 31 = .ok (.iconst 0, 1) := by decide +kernel
theorem dX3_newResumption_32 : decode cX3_newResumption 32 = .ok (.iastore, 1) := by decide +kernel
theorem dX3_newResumption_33 : decode cX3_newResumption 33 = .ok (.aload_n 0, 1) := by decide +kernel
theorem dX3_newResumption_34 : decode cX3_newResumption 34 = .ok (.dup, 1) := by decide +kernel
theorem dX3_newResumption_35 : decode cX3_newResumption 35 = .ok (.getfield 18, 3) := by decide +kernel
theorem dX3_newResumption_38 : decode cX3_newResumption 38 = .ok (.iconst 1, 1) := by decide +kernel
theorem dX3_newResumption_39 : decode cX3_newResumption 39 = .ok (.iadd, 1) := by decide +kernel
theorem dX3_newResumption_40 : decode cX3_newResumption 40 = .ok (.putfield 18, 3) := by decide +kernel
theorem dX3_newResumption_43 : decode cX3_newResumption 43 = .ok (.aload_n 2, 1) := by decide +kernel
theorem dX3_newResumption_44 : decode cX3_newResumption 44 = .ok (.areturn, 1) := by decide +kernel
theorem dX3_use_0 : decode cX3_use 0 = .ok (.aload_n 0, 1) := by decide +kernel
theorem dX3_use_1 : decode cX3_use 1 = .ok (.dup, 1) := by decide +kernel
theorem dX3_use_2 : decode cX3_use 2 = .ok (.getfield 22, 3) := by decide +kernel
theorem dX3_use_5 : decode cX3_use 5 = .ok (.iconst 1, 1) := by decide +kernel
theorem dX3_use_6 : decode cX3_use 6 = .ok (.iadd, 1) := by decide +kernel
theorem dX3_use_7 : decode cX3_use 7 = .ok (.putfield 22, 3) := by decide +kernel
theorem dX3_use_10 : decode cX3_use 10 = .ok (.aload_n 1, 1) := by decide +kernel
theorem dX3_use_11 : decode cX3_use 11 = .ok (.getfield 55, 3) := by decide +kernel
theorem dX3_use_14 : decode cX3_use 14 = .ok (.invokestatic 51, 3) := by decide +kernel
theorem dX3_use_17 : decode cX3_use 17 = .ok (.ifCond .eq 39, 3) := by decide +kernel
theorem dX3_use_20 : decode cX3_use 20 = .ok (.aload_n 0, 1) := by decide +kernel
theorem dX3_use_21 : decode cX3_use 21 = .ok (.getfield 9, 3) := by decide +kernel
theorem dX3_use_24 : decode cX3_use 24 = .ok (.aload_n 1, 1) := by decide +kernel
theorem dX3_use_25 : decode cX3_use 25 = .ok (.getfield 55, 3) := by decide +kernel
theorem dX3_use_28 : decode cX3_use 28 = .ok (.dup2, 1) := by decide +kernel
theorem dX3_use_29 : decode cX3_use 29 = .ok (.iaload, 1) := by decide +kernel
theorem dX3_use_30 : decode cX3_use 30 = .ok (.iconst 1, 1) := by decide +kernel
theorem dX3_use_31 : decode cX3_use 31 = .ok (.iadd, 1) := by decide +kernel
theorem dX3_use_32 : decode cX3_use 32 = .ok (.iastore, 1) := by decide +kernel
theorem dX3_use_33 : decode cX3_use 33 = .ok (.aload_n 0, 1) := by decide +kernel
theorem dX3_use_34 : decode cX3_use 34 = .ok (.getfield 9, 3) := by decide +kernel
theorem dX3_use_37 : decode cX3_use 37 = .ok (.aload_n 1, 1) := by decide +kernel
theorem dX3_use_38 : decode cX3_use 38 = .ok (.getfield 55, 3) := by decide +kernel
theorem dX3_use_41 : decode cX3_use 41 = .ok (.iaload, 1) := by decide +kernel
theorem dX3_use_42 : decode cX3_use 42 = .ok (.iconst 2, 1) := by decide +kernel
theorem dX3_use_43 : decode cX3_use 43 = .ok (.if_icmp .ne 13, 3) := by decide +kernel
theorem dX3_use_46 : decode cX3_use 46 = .ok (.aload_n 0, 1) := by decide +kernel
theorem dX3_use_47 : decode cX3_use 47 = .ok (.dup, 1) := by decide +kernel
theorem dX3_use_48 : decode cX3_use 48 = .ok (.getfield 25, 3) := by decide +kernel
theorem dX3_use_51 : decode cX3_use 51 = .ok (.iconst 1, 1) := by decide +kernel
theorem dX3_use_52 : decode cX3_use 52 = .ok (.iadd, 1) := by decide +kernel
theorem dX3_use_53 : decode cX3_use 53 = .ok (.putfield 25, 3) := by decide +kernel
theorem dX3_use_56 : decode cX3_use 56 = .ok (.return_, 1) := by decide +kernel
theorem dX3_usesOf_0 : decode cX3_usesOf 0 = .ok (.aload_n 1, 1) := by decide +kernel
theorem dX3_usesOf_1 : decode cX3_usesOf 1 = .ok (.ifnull 25, 3) := by decide +kernel
theorem dX3_usesOf_4 : decode cX3_usesOf 4 = .ok (.aload_n 1, 1) := by decide +kernel
theorem dX3_usesOf_5 : decode cX3_usesOf 5 = .ok (.getfield 55, 3) := by decide +kernel
theorem dX3_usesOf_8 : decode cX3_usesOf 8 = .ok (.invokestatic 51, 3) := by decide +kernel
theorem dX3_usesOf_11 : decode cX3_usesOf 11 = .ok (.ifCond .eq 15, 3) := by decide +kernel
theorem dX3_usesOf_14 : decode cX3_usesOf 14 = .ok (.aload_n 0, 1) := by decide +kernel
theorem dX3_usesOf_15 : decode cX3_usesOf 15 = .ok (.getfield 9, 3) := by decide +kernel
theorem dX3_usesOf_18 : decode cX3_usesOf 18 = .ok (.aload_n 1, 1) := by decide +kernel
theorem dX3_usesOf_19 : decode cX3_usesOf 19 = .ok (.getfield 55, 3) := by decide +kernel
theorem dX3_usesOf_22 : decode cX3_usesOf 22 = .ok (.iaload, 1) := by decide +kernel
theorem dX3_usesOf_23 : decode cX3_usesOf 23 = .ok (.goto 4, 3) := by decide +kernel
theorem dX3_usesOf_26 : decode cX3_usesOf 26 = .ok (.iconst 0, 1) := by decide +kernel
theorem dX3_usesOf_27 : decode cX3_usesOf 27 = .ok (.ireturn, 1) := by decide +kernel
theorem dX3_newFinalizer_0 : decode cX3_newFinalizer 0 = .ok (.aload_n 0, 1) := by decide +kernel
theorem dX3_newFinalizer_1 : decode cX3_newFinalizer 1 = .ok (.getfield 28, 3) := by decide +kernel
theorem dX3_newFinalizer_4 : decode cX3_newFinalizer 4 = .ok (.istore_n 1, 1) := by decide +kernel
theorem dX3_newFinalizer_5 : decode cX3_newFinalizer 5 = .ok (.iload_n 1, 1) := by decide +kernel
theorem dX3_newFinalizer_6 : decode cX3_newFinalizer 6 = .ok (.invokestatic 51, 3) := by decide +kernel
theorem dX3_newFinalizer_9 : decode cX3_newFinalizer 9 = .ok (.ifCond .eq 10, 3) := by decide +kernel
theorem dX3_newFinalizer_12 : decode cX3_newFinalizer 12 = .ok (.aload_n 0, 1) := by decide +kernel
theorem dX3_newFinalizer_13 : decode cX3_newFinalizer 13 = .ok (.getfield 15, 3) := by decide +kernel
theorem dX3_newFinalizer_16 : decode cX3_newFinalizer 16 = .ok (.iload_n 1, 1) := by decide +kernel
theorem dX3_newFinalizer_17 : decode cX3_newFinalizer 17 = .ok (.iconst 0, 1) := by decide +kernel
theorem dX3_newFinalizer_18 : decode cX3_newFinalizer 18 = .ok (.iastore, 1) := by decide +kernel
theorem dX3_newFinalizer_19 : decode cX3_newFinalizer 19 = .ok (.aload_n 0, 1) := by decide +kernel
theorem dX3_newFinalizer_20 : decode cX3_newFinalizer 20 = .ok (.dup, 1) := by decide +kernel
theorem dX3_newFinalizer_21 : decode cX3_newFinalizer 21 = .ok (.getfield 28, 3) := by decide +kernel
theorem dX3_newFinalizer_24 : decode cX3_newFinalizer 24 = .ok (.iconst 1, 1) := by decide +kernel
theorem dX3_newFinalizer_25 : decode cX3_newFinalizer 25 = .ok (.iadd, 1) := by decide +kernel
theorem dX3_newFinalizer_26 : decode cX3_newFinalizer 26 = .ok (.putfield 28, 3) := by decide +kernel
theorem dX3_newFinalizer_29 : decode cX3_newFinalizer 29 = .ok (.iload_n 1, 1) := by decide +kernel
theorem dX3_newFinalizer_30 : decode cX3_newFinalizer 30 = .ok (.ireturn, 1) := by decide +kernel
theorem dX3_execute_0 : decode cX3_execute 0 = .ok (.aload_n 0, 1) := by decide +kernel
theorem dX3_execute_1 : decode cX3_execute 1 = .ok (.dup, 1) := by decide +kernel
theorem dX3_execute_2 : decode cX3_execute 2 = .ok (.getfield 31, 3) := by decide +kernel
theorem dX3_execute_5 : decode cX3_execute 5 = .ok (.iconst 1, 1) := by decide +kernel
theorem dX3_execute_6 : decode cX3_execute 6 = .ok (.iadd, 1) := by decide +kernel
theorem dX3_execute_7 : decode cX3_execute 7 = .ok (.putfield 31, 3) := by decide +kernel
theorem dX3_execute_10 : decode cX3_execute 10 = .ok (.iload_n 1, 1) := by decide +kernel
theorem dX3_execute_11 : decode cX3_execute 11 = .ok (.invokestatic 51, 3) := by decide +kernel
theorem dX3_execute_14 : decode cX3_execute 14 = .ok (.ifCond .eq 10, 3) := by decide +kernel
theorem dX3_execute_17 : decode cX3_execute 17 = .ok (.aload_n 0, 1) := by decide +kernel
theorem dX3_execute_18 : decode cX3_execute 18 = .ok (.getfield 15, 3) := by decide +kernel
theorem dX3_execute_21 : decode cX3_execute 21 = .ok (.iload_n 1, 1) := by decide +kernel
theorem dX3_execute_22 : decode cX3_execute 22 = .ok (.iconst 1, 1) := by decide +kernel
theorem dX3_execute_23 : decode cX3_execute 23 = .ok (.iastore, 1) := by decide +kernel
theorem dX3_execute_24 : decode cX3_execute 24 = .ok (.return_, 1) := by decide +kernel
theorem dX3_executed_0 : decode cX3_executed 0 = .ok (.iload_n 1, 1) := by decide +kernel
theorem dX3_executed_1 : decode cX3_executed 1 = .ok (.invokestatic 51, 3) := by decide +kernel
theorem dX3_executed_4 : decode cX3_executed 4 = .ok (.ifCond .eq 12, 3) := by decide +kernel
theorem dX3_executed_7 : decode cX3_executed 7 = .ok (.aload_n 0, 1) := by decide +kernel
theorem dX3_executed_8 : decode cX3_executed 8 = .ok (.getfield 15, 3) := by decide +kernel
theorem dX3_executed_11 : decode cX3_executed 11 = .ok (.iload_n 1, 1) := by decide +kernel
theorem dX3_executed_12 : decode cX3_executed 12 = .ok (.iaload, 1) := by decide +kernel
theorem dX3_executed_13 : decode cX3_executed 13 = .ok (.goto 4, 3) := by decide +kernel
theorem dX3_executed_16 : decode cX3_executed 16 = .ok (.iconst 0, 1) := by decide +kernel
theorem dX3_executed_17 : decode cX3_executed 17 = .ok (.ireturn, 1) := by decide +kernel
theorem dX4_init_0 : decode cX4_init 0 = .ok (.aload_n 0, 1) := by decide +kernel
theorem dX4_init_1 : decode cX4_init 1 = .ok (.invokespecial 3, 3) := by decide +kernel
theorem dX4_init_4 : decode cX4_init 4 = .ok (.aload_n 0, 1) := by decide +kernel
theorem dX4_init_5 : decode cX4_init 5 = .ok (.sipush 240, 3) := by decide +kernel
theorem dX4_init_8 : decode cX4_init 8 = .ok (.newarray .int, 2) := by decide +kernel
theorem dX4_init_10 : decode cX4_init 10 = .ok (.putfield 11, 3) := by decide +kernel
theorem dX4_init_13 : decode cX4_init 13 = .ok (.aload_n 0, 1) := by decide +kernel
theorem dX4_init_14 : decode cX4_init 14 = .ok (.sipush 240, 3) := by decide +kernel
theorem dX4_init_17 : decode cX4_init 17 = .ok (.anewarray 15, 3) := by decide +kernel
theorem dX4_init_20 : decode cX4_init 20 = .ok (.putfield 17, 3) := by decide +kernel
theorem dX4_init_23 : decode cX4_init 23 = .ok (.aload_n 0, 1) := by decide +kernel
theorem dX4_init_24 : decode cX4_init 24 = .ok (.sipush 240, 3) := by decide +kernel
theorem dX4_init_27 : decode cX4_init 27 = .ok (.newarray .int, 2) := by decide +kernel
theorem dX4_init_29 : decode cX4_init 29 = .ok (.putfield 21, 3) := by decide +kernel
theorem dX4_init_32 : decode cX4_init 32 = .ok (.return_, 1) := by decide +kernel
theorem dX4_list_0 : decode cX4_list 0 = .ok (.aload_n 0, 1) := by decide +kernel
theorem dX4_list_1 : decode cX4_list 1 = .ok (.iconst 0, 1) := by decide +kernel
theorem dX4_list_2 : decode cX4_list 2 = .ok (.putfield 24, 3) := by decide +kernel
theorem dX4_list_5 : decode cX4_list 5 = .ok (.aload_n 0, 1) := by decide +kernel
theorem dX4_list_6 : decode cX4_list 6 = .ok (.iconst 0, 1) := by decide +kernel
theorem dX4_list_7 : decode cX4_list 7 = .ok (.putfield 28, 3) := by decide +kernel
theorem dX4_list_10 : decode cX4_list 10 = .ok (.aload_n 0, 1) := by decide +kernel
theorem dX4_list_11 : decode cX4_list 11 = .ok (.iconst 0, 1) := by decide +kernel
theorem dX4_list_12 : decode cX4_list 12 = .ok (.putfield 31, 3) := by decide +kernel
theorem dX4_list_15 : decode cX4_list 15 = .ok (.aload_n 0, 1) := by decide +kernel
theorem dX4_list_16 : decode cX4_list 16 = .ok (.aload_n 1, 1) := by decide +kernel
theorem dX4_list_17 : decode cX4_list 17 = .ok (.iconst 0, 1) := by decide +kernel
theorem dX4_list_18 : decode cX4_list 18 = .ok (.invokevirtual 35, 3) := by decide +kernel
theorem dX4_list_21 : decode cX4_list 21 = .ok (.iconst 0, 1) := by decide +kernel
theorem dX4_list_22 : decode cX4_list 22 = .ok (.istore_n 2, 1) := by decide +kernel
theorem dX4_list_23 : decode cX4_list 23 = .ok (.iload_n 2, 1) := by decide +kernel
theorem dX4_list_24 : decode cX4_list 24 = .ok (.ldc 39, 2) := by decide +kernel
theorem dX4_list_26 : decode cX4_list 26 = .ok (.if_icmp .ge 66, 3) := by decide +kernel
theorem dX4_list_29 : decode cX4_list 29 = .ok (.aload_n 0, 1) := by decide +kernel
theorem dX4_list_30 : decode cX4_list 30 = .ok (.getfield 28, 3) := by decide +kernel
theorem dX4_list_33 : decode cX4_list 33 = .ok (.ifCond .le 59, 3) := by decide +kernel
theorem dX4_list_36 : decode cX4_list 36 = .ok (.aload_n 0, 1) := by decide +kernel
theorem dX4_list_37 : decode cX4_list 37 = .ok (.dup, 1) := by decide +kernel
theorem dX4_list_38 : decode cX4_list 38 = .ok (.getfield 28, 3) := by decide +kernel
theorem dX4_list_41 : decode cX4_list 41 = .ok (.iconst 1, 1) := by decide +kernel
theorem dX4_list_42 : decode cX4_list 42 = .ok (.isub, 1) := by decide +kernel
theorem dX4_list_43 : decode cX4_list 43 = .ok (.putfield 28, 3) := by decide +kernel
theorem dX4_list_46 : decode cX4_list 46 = .ok (.aload_n 0, 1) := by decide +kernel
theorem dX4_list_47 : decode cX4_list 47 = .ok (.getfield 17, 3) := by decide +kernel
theorem dX4_list_50 : decode cX4_list 50 = .ok (.aload_n 0, 1) := by decide +kernel
theorem dX4_list_51 : decode cX4_list 51 = .ok (.getfield 28, 3) := by decide +kernel
theorem dX4_list_54 : decode cX4_list 54 = .ok (.aaload, 1) := by decide +kernel
theorem dX4_list_55 : decode cX4_list 55 = .ok (.astore_n 3, 1) := by decide +kernel
theorem dX4_list_56 : decode cX4_list 56 = .ok (.aload_n 3, 1) := by decide +kernel
theorem dX4_list_57 : decode cX4_list 57 = .ok (.ifnonnull 19, 3) := by decide +kernel
theorem dX4_list_60 : decode cX4_list 60 = .ok (.aload_n 0, 1) := by decide +kernel
theorem dX4_list_61 : decode cX4_list 61 = .ok (.aload_n 0, 1) := by decide +kernel
theorem dX4_list_62 : decode cX4_list 62 = .ok (.getfield 21, 3) := by decide +kernel
theorem dX4_list_65 : decode cX4_list 65 = .ok (.aload_n 0, 1) := by decide +kernel
theorem dX4_list_66 : decode cX4_list 66 = .ok (.getfield 28, 3) := by decide +kernel
theorem dX4_list_69 : decode cX4_list 69 = .ok (.iaload, 1) := by decide +kernel
theorem dX4_list_70 : decode cX4_list 70 = .ok (.invokevirtual 40, 3) := by decide +kernel
theorem dX4_list_73 : decode cX4_list 73 = .ok (.goto 13, 3) := by decide +kernel
theorem dX4_list_76 : decode cX4_list 76 = .ok (.aload_n 0, 1) := by decide +kernel
theorem dX4_list_77 : decode cX4_list 77 = .ok (.aload_n 3, 1) := by decide +kernel
theorem dX4_list_78 : decode cX4_list 78 = .ok (.invokevirtual 44, 3) := by decide +kernel
theorem dX4_list_81 : decode cX4_list 81 = .ok (.aload_n 0, 1) := by decide +kernel
theorem dX4_list_82 : decode cX4_list 82 = .ok (.aload_n 3, 1) := by decide +kernel
theorem dX4_list_83 : decode cX4_list 83 = .ok (.invokevirtual 48, 3) := by decide +kernel
theorem dX4_list_86 : decode cX4_list 86 = .ok (.iinc 2 1, 3) := by decide +kernel
theorem dX4_list_89 : decode cX4_list 89 = .ok (.goto (-66), 3) := by decide +kernel
theorem dX4_list_92 : decode cX4_list 92 = .ok (.aload_n 0, 1) := by decide +kernel
theorem dX4_list_93 : decode cX4_list 93 = .ok (.getfield 11, 3) := by decide +kernel
theorem dX4_list_96 : decode cX4_list 96 = .ok (.aload_n 0, 1) := by decide +kernel
theorem dX4_list_97 : decode cX4_list 97 = .ok (.getfield 24, 3) := by decide +kernel
theorem dX4_list_100 : decode cX4_list 100 = .ok (.invokestatic 51, 3) := by decide +kernel
theorem dX4_list_103 : decode cX4_list 103 = .ok (.areturn, 1) := by decide +kernel
theorem dX4_plan_0 : decode cX4_plan 0 = .ok (.aload_n 0, 1) := by decide +kernel
theorem dX4_plan_1 : decode cX4_plan 1 = .ok (.getfield 28, 3) := by decide +kernel
theorem dX4_plan_4 : decode cX4_plan 4 = .ok (.sipush 240, 3) := by decide +kernel
theorem dX4_plan_7 : decode cX4_plan 7 = .ok (.if_icmp .ge 33, 3) := by decide +kernel
theorem dX4_plan_10 : decode cX4_plan 10 = .ok (.aload_n 0, 1) := by decide +kernel
theorem dX4_plan_11 : decode cX4_plan 11 = .ok (.getfield 17, 3) := by decide +kernel
theorem dX4_plan_14 : decode cX4_plan 14 = .ok (.aload_n 0, 1) := by decide +kernel
theorem dX4_plan_15 : decode cX4_plan 15 = .ok (.getfield 28, 3) := by decide +kernel
theorem dX4_plan_18 : decode cX4_plan 18 = .ok (.aload_n 1, 1) := by decide +kernel
theorem dX4_plan_19 : decode cX4_plan 19 = .ok (.aastore, 1) := by decide +kernel
theorem dX4_plan_20 : decode cX4_plan 20 = .ok (.aload_n 0, 1) := by decide +kernel
theorem dX4_plan_21 : decode cX4_plan 21 = .ok (.getfield 21, 3) := by decide +kernel
theorem dX4_plan_24 : decode cX4_plan 24 = .ok (.aload_n 0, 1) := by decide +kernel
theorem dX4_plan_25 : decode cX4_plan 25 = .ok (.getfield 28, 3) := by decide +kernel
theorem dX4_plan_28 : decode cX4_plan 28 = .ok (.iload_n 2, 1) := by decide +kernel
theorem dX4_plan_29 : decode cX4_plan 29 = .ok (.iastore, 1) := by decide +kernel
theorem dX4_plan_30 : decode cX4_plan 30 = .ok (.aload_n 0, 1) := by decide +kernel
theorem dX4_plan_31 : decode cX4_plan 31 = .ok (.dup, 1) := by decide +kernel
theorem dX4_plan_32 : decode cX4_plan 32 = .ok (.getfield 28, 3) := by decide +kernel
theorem dX4_plan_35 : decode cX4_plan 35 = .ok (.iconst 1, 1) := by decide +kernel
theorem dX4_plan_36 : decode cX4_plan 36 = .ok (.iadd, 1) := by decide +kernel
theorem dX4_plan_37 : decode cX4_plan 37 = .ok (.putfield 28, 3) := by decide +kernel
theorem dX4_plan_40 : decode cX4_plan 40 = .ok (.return_, 1) := by decide +kernel
theorem dX4_planParts_0 : decode cX4_planParts 0 = .ok (.aload_n 1, 1) := by decide +kernel
theorem dX4_planParts_1 : decode cX4_planParts 1 = .ok (.getfield 57, 3) := by decide +kernel
theorem dX4_planParts_4 : decode cX4_planParts 4 = .ok (.ifnull 29, 3) := by decide +kernel
theorem dX4_planParts_7 : decode cX4_planParts 7 = .ok (.aload_n 0, 1) := by decide +kernel
theorem dX4_planParts_8 : decode cX4_planParts 8 = .ok (.aconst_null, 1) := by decide +kernel
theorem dX4_planParts_9 : decode cX4_planParts 9 = .ok (.bipush 125, 2) := by decide +kernel
theorem dX4_planParts_11 : decode cX4_planParts 11 = .ok (.invokevirtual 35, 3) := by decide +kernel
theorem dX4_planParts_14 : decode cX4_planParts 14 = .ok (.bipush 6, 2) := by decide +kernel
theorem dX4_planParts_16 : decode cX4_planParts 16 = .ok (.istore_n 2, 1) := by decide +kernel
theorem dX4_planParts_17 : decode cX4_planParts 17 = .ok (.iload_n 2, 1) := by decide +kernel
theorem dX4_planParts_18 : decode cX4_planParts 18 = .ok (.ifCond .lt 15, 3) := by decide +kernel
theorem dX4_planParts_21 : decode cX4_planParts 21 = .ok (.aload_n 0, 1) := by decide +kernel
theorem dX4_planParts_22 : decode cX4_planParts 22 = .ok (.aload_n 1, 1) := by decide +kernel
theorem dX4_planParts_23 : decode cX4_planParts 23 = .ok (.iload_n 2, 1) := by decide +kernel
theorem dX4_planParts_24 : decode cX4_planParts 24 = .ok (.invokevirtual 60, 3) := by decide +kernel
theorem dX4_planParts_27 : decode cX4_planParts 27 = .ok (.iinc 2 (-1), 3) := by decide +kernel
theorem dX4_planParts_30 : decode cX4_planParts 30 = .ok (.goto (-13), 3) := by decide +kernel
theorem dX4_planParts_33 : decode cX4_planParts 33 = .ok (.aload_n 0, 1) := by decide +kernel
theorem dX4_planParts_34 : decode cX4_planParts 34 = .ok (.aload_n 1, 1) := by decide +kernel
theorem dX4_planParts_35 : decode cX4_planParts 35 = .ok (.getfield 63, 3) := by decide +kernel
theorem dX4_planParts_38 : decode cX4_planParts 38 = .ok (.invokevirtual 67, 3) := by decide +kernel
theorem dX4_planParts_41 : decode cX4_planParts 41 = .ok (.aload_n 0, 1) := by decide +kernel
theorem dX4_planParts_42 : decode cX4_planParts 42 = .ok (.aload_n 1, 1) := by decide +kernel
theorem dX4_planParts_43 : decode cX4_planParts 43 = .ok (.getfield 70, 3) := by decide +kernel
theorem dX4_planParts_46 : decode cX4_planParts 46 = .ok (.invokevirtual 67, 3) := by decide +kernel
theorem dX4_planParts_49 : decode cX4_planParts 49 = .ok (.aload_n 0, 1) := by decide +kernel
theorem dX4_planParts_50 : decode cX4_planParts 50 = .ok (.aload_n 1, 1) := by decide +kernel
theorem dX4_planParts_51 : decode cX4_planParts 51 = .ok (.getfield 73, 3) := by decide +kernel
theorem dX4_planParts_54 : decode cX4_planParts 54 = .ok (.invokevirtual 67, 3) := by decide +kernel
theorem dX4_planParts_57 : decode cX4_planParts 57 = .ok (.return_, 1) := by decide +kernel
theorem dX4_planClause_0 : decode cX4_planClause 0 = .ok (.aload_n 1, 1) := by decide +kernel
theorem dX4_planClause_1 : decode cX4_planClause 1 = .ok (.iload_n 2, 1) := by decide +kernel
theorem dX4_planClause_2 : decode cX4_planClause 2 = .ok (.invokevirtual 76, 3) := by decide +kernel
theorem dX4_planClause_5 : decode cX4_planClause 5 = .ok (.ifnull 46, 3) := by decide +kernel
theorem dX4_planClause_8 : decode cX4_planClause 8 = .ok (.aload_n 0, 1) := by decide +kernel
theorem dX4_planClause_9 : decode cX4_planClause 9 = .ok (.aload_n 1, 1) := by decide +kernel
theorem dX4_planClause_10 : decode cX4_planClause 10 = .ok (.iload_n 2, 1) := by decide +kernel
theorem dX4_planClause_11 : decode cX4_planClause 11 = .ok (.invokevirtual 76, 3) := by decide +kernel
theorem dX4_planClause_14 : decode cX4_planClause 14 = .ok (.iconst 0, 1) := by decide +kernel
theorem dX4_planClause_15 : decode cX4_planClause 15 = .ok (.invokevirtual 35, 3) := by decide +kernel
theorem dX4_planClause_18 : decode cX4_planClause 18 = .ok (.aload_n 0, 1) := by decide +kernel
theorem dX4_planClause_19 : decode cX4_planClause 19 = .ok (.aconst_null, 1) := by decide +kernel
theorem dX4_planClause_20 : decode cX4_planClause 20 = .ok (.bipush 97, 2) := by decide +kernel
theorem dX4_planClause_22 : decode cX4_planClause 22 = .ok (.aload_n 1, 1) := by decide +kernel
theorem dX4_planClause_23 : decode cX4_planClause 23 = .ok (.iload_n 2, 1) := by decide +kernel
theorem dX4_planClause_24 : decode cX4_planClause 24 = .ok (.invokevirtual 80, 3) := by decide +kernel
theorem dX4_planClause_27 : decode cX4_planClause 27 = .ok (.iadd, 1) := by decide +kernel
theorem dX4_planClause_28 : decode cX4_planClause 28 = .ok (.invokevirtual 35, 3) := by decide +kernel
theorem dX4_planClause_31 : decode cX4_planClause 31 = .ok (.aload_n 0, 1) := by decide +kernel
theorem dX4_planClause_32 : decode cX4_planClause 32 = .ok (.aconst_null, 1) := by decide +kernel
theorem dX4_planClause_33 : decode cX4_planClause 33 = .ok (.iload_n 2, 1) := by decide +kernel
theorem dX4_planClause_34 : decode cX4_planClause 34 = .ok (.bipush 6, 2) := by decide +kernel
theorem dX4_planClause_36 : decode cX4_planClause 36 = .ok (.if_icmp .ne 8, 3) := by decide +kernel
theorem dX4_planClause_39 : decode cX4_planClause 39 = .ok (.bipush 58, 2) := by decide +kernel
theorem dX4_planClause_41 : decode cX4_planClause 41 = .ok (.goto 7, 3) := by decide +kernel
theorem dX4_planClause_44 : decode cX4_planClause 44 = .ok (.bipush 65, 2) := by decide +kernel
theorem dX4_planClause_46 : decode cX4_planClause 46 = .ok (.iload_n 2, 1) := by decide +kernel
theorem dX4_planClause_47 : decode cX4_planClause 47 = .ok (.iadd, 1) := by decide +kernel
theorem dX4_planClause_48 : decode cX4_planClause 48 = .ok (.invokevirtual 35, 3) := by decide +kernel
theorem dX4_planClause_51 : decode cX4_planClause 51 = .ok (.return_, 1) := by decide +kernel
theorem dX4_planPart_0 : decode cX4_planPart 0 = .ok (.aload_n 1, 1) := by decide +kernel
theorem dX4_planPart_1 : decode cX4_planPart 1 = .ok (.ifnull 9, 3) := by decide +kernel
theorem dX4_planPart_4 : decode cX4_planPart 4 = .ok (.aload_n 0, 1) := by decide +kernel
theorem dX4_planPart_5 : decode cX4_planPart 5 = .ok (.aload_n 1, 1) := by decide +kernel
theorem dX4_planPart_6 : decode cX4_planPart 6 = .ok (.iconst 0, 1) := by decide +kernel
theorem dX4_planPart_7 : decode cX4_planPart 7 = .ok (.invokevirtual 35, 3) := by decide +kernel
theorem dX4_planPart_10 : decode cX4_planPart 10 = .ok (.return_, 1) := by decide +kernel
theorem dX4_putHead_0 : decode cX4_putHead 0 = .ok (.aload_n 1, 1) := by decide +kernel
theorem dX4_putHead_1 : decode cX4_putHead 1 = .ok (.getfield 84, 3) := by decide +kernel
theorem dX4_putHead_4 : decode cX4_putHead 4 = .ok (.lookupswitch 147 #[(38, 127), (48, 60), (61, 85), (94, 105), (97, 71), (126, 105)], 60) := by decide +kernel
theorem dX4_putHead_64 : decode cX4_putHead 64 = .ok (.aload_n 0, 1) := by decide +kernel
theorem dX4_putHead_65 : decode cX4_putHead 65 = .ok (.aload_n 1, 1) := by decide +kernel
theorem dX4_putHead_66 : decode cX4_putHead 66 = .ok (.getfield 87, 3) := by decide +kernel
theorem dX4_putHead_69 : decode cX4_putHead 69 = .ok (.invokevirtual 90, 3) := by decide +kernel
theorem dX4_putHead_72 : decode cX4_putHead 72 = .ok (.goto 87, 3) := by decide +kernel
theorem dX4_putHead_75 : decode cX4_putHead 75 = .ok (.aload_n 0, 1) := by decide +kernel
theorem dX4_putHead_76 : decode cX4_putHead 76 = .ok (.bipush 97, 2) := by decide +kernel
theorem dX4_putHead_78 : decode cX4_putHead 78 = .ok (.aload_n 1, 1) := by decide +kernel
theorem dX4_putHead_79 : decode cX4_putHead 79 = .ok (.getfield 87, 3) := by decide +kernel
theorem dX4_putHead_82 : decode cX4_putHead 82 = .ok (.iadd, 1) := by decide +kernel
theorem dX4_putHead_83 : decode cX4_putHead 83 = .ok (.invokevirtual 40, 3) := by decide +kernel
theorem dX4_putHead_86 : decode cX4_putHead 86 = .ok (.goto 73, 3) := by decide +kernel
theorem dX4_putHead_89 : decode cX4_putHead 89 = .ok (.aload_n 0, 1) := by decide +kernel
theorem dX4_putHead_90 : decode cX4_putHead 90 = .ok (.bipush 61, 2) := by decide +kernel
theorem dX4_putHead_92 : decode cX4_putHead 92 = .ok (.invokevirtual 40, 3) := by decide +kernel
theorem dX4_putHead_95 : decode cX4_putHead 95 = .ok (.aload_n 0, 1) := by decide +kernel
theorem dX4_putHead_96 : decode cX4_putHead 96 = .ok (.bipush 97, 2) := by decide +kernel
theorem dX4_putHead_98 : decode cX4_putHead 98 = .ok (.aload_n 1, 1) := by decide +kernel
theorem dX4_putHead_99 : decode cX4_putHead 99 = .ok (.getfield 87, 3) := by decide +kernel
theorem dX4_putHead_102 : decode cX4_putHead 102 = .ok (.iadd, 1) := by decide +kernel
theorem dX4_putHead_103 : decode cX4_putHead 103 = .ok (.invokevirtual 40, 3) := by decide +kernel
theorem dX4_putHead_106 : decode cX4_putHead 106 = .ok (.goto 53, 3) := by decide +kernel
theorem dX4_putHead_109 : decode cX4_putHead 109 = .ok (.aload_n 0, 1) := by decide +kernel
theorem dX4_putHead_110 : decode cX4_putHead 110 = .ok (.aload_n 1, 1) := by decide +kernel
theorem dX4_putHead_111 : decode cX4_putHead 111 = .ok (.getfield 84, 3) := by decide +kernel
theorem dX4_putHead_114 : decode cX4_putHead 114 = .ok (.invokevirtual 40, 3) := by decide +kernel
theorem dX4_putHead_117 : decode cX4_putHead 117 = .ok (.aload_n 0, 1) := by decide +kernel
theorem dX4_putHead_118 : decode cX4_putHead 118 = .ok (.bipush 65, 2) := by decide +kernel
theorem dX4_putHead_120 : decode cX4_putHead 120 = .ok (.aload_n 1, 1) := by decide +kernel
theorem dX4_putHead_121 : decode cX4_putHead 121 = .ok (.getfield 87, 3) := by decide +kernel
theorem dX4_putHead_124 : decode cX4_putHead 124 = .ok (.iadd, 1) := by decide +kernel
theorem dX4_putHead_125 : decode cX4_putHead 125 = .ok (.invokevirtual 40, 3) := by decide +kernel
theorem dX4_putHead_128 : decode cX4_putHead 128 = .ok (.goto 31, 3) := by decide +kernel
theorem dX4_putHead_131 : decode cX4_putHead 131 = .ok (.aload_n 0, 1) := by decide +kernel
theorem dX4_putHead_132 : decode cX4_putHead 132 = .ok (.bipush 38, 2) := by decide +kernel
theorem dX4_putHead_134 : decode cX4_putHead 134 = .ok (.invokevirtual 40, 3) := by decide +kernel
theorem dX4_putHead_137 : decode cX4_putHead 137 = .ok (.aload_n 0, 1) := by decide +kernel
theorem dX4_putHead_138 : decode cX4_putHead 138 = .ok (.bipush 48, 2) := by decide +kernel
theorem dX4_putHead_140 : decode cX4_putHead 140 = .ok (.aload_n 1, 1) := by decide +kernel
theorem dX4_putHead_141 : decode cX4_putHead 141 = .ok (.getfield 87, 3) := by decide +kernel
theorem dX4_putHead_144 : decode cX4_putHead 144 = .ok (.iadd, 1) := by decide +kernel
theorem dX4_putHead_145 : decode cX4_putHead 145 = .ok (.invokevirtual 40, 3) := by decide +kernel
theorem dX4_putHead_148 : decode cX4_putHead 148 = .ok (.goto 11, 3) := by decide +kernel
theorem dX4_putHead_151 : decode cX4_putHead 151 = .ok (.aload_n 0, 1) := by decide +kernel
theorem dX4_putHead_152 : decode cX4_putHead 152 = .ok (.aload_n 1, 1) := by decide +kernel
theorem dX4_putHead_153 : decode cX4_putHead 153 = .ok (.getfield 84, 3) := by decide +kernel
theorem dX4_putHead_156 : decode cX4_putHead 156 = .ok (.invokevirtual 40, 3) := by decide +kernel
theorem dX4_putHead_159 : decode cX4_putHead 159 = .ok (.return_, 1) := by decide +kernel
theorem dX4_putNumber_0 : decode cX4_putNumber 0 = .ok (.aload_n 0, 1) := by decide +kernel
theorem dX4_putNumber_1 : decode cX4_putNumber 1 = .ok (.getfield 31, 3) := by decide +kernel
theorem dX4_putNumber_4 : decode cX4_putNumber 4 = .ok (.ifCond .eq 9, 3) := by decide +kernel
theorem dX4_putNumber_7 : decode cX4_putNumber 7 = .ok (.aload_n 0, 1) := by decide +kernel
theorem dX4_putNumber_8 : decode cX4_putNumber 8 = .ok (.bipush 32, 2) := by decide +kernel
theorem dX4_putNumber_10 : decode cX4_putNumber 10 = .ok (.invokevirtual 40, 3) := by decide +kernel
theorem dX4_putNumber_13 : decode cX4_putNumber 13 = .ok (.iload_n 1, 1) := by decide +kernel
theorem dX4_putNumber_14 : decode cX4_putNumber 14 = .ok (.bipush 100, 2) := by decide +kernel
theorem dX4_putNumber_16 : decode cX4_putNumber 16 = .ok (.if_icmp .lt 14, 3) := by decide +kernel
theorem dX4_putNumber_19 : decode cX4_putNumber 19 = .ok (.aload_n 0, 1) := by decide +kernel
theorem dX4_putNumber_20 : decode cX4_putNumber 20 = .ok (.bipush 48, 2) := by decide +kernel
theorem dX4_putNumber_22 : decode cX4_putNumber 22 = .ok (.iload_n 1, 1) := by decide +kernel
theorem dX4_putNumber_23 : decode cX4_putNumber 23 = .ok (.bipush 100, 2) := by decide +kernel
theorem dX4_putNumber_25 : decode cX4_putNumber 25 = .ok (.idiv, 1) := by decide +kernel
theorem dX4_putNumber_26 : decode cX4_putNumber 26 = .ok (.iadd, 1) := by decide +kernel
theorem dX4_putNumber_27 : decode cX4_putNumber 27 = .ok (.invokevirtual 40, 3) := by decide +kernel
theorem dX4_putNumber_30 : decode cX4_putNumber 30 = .ok (.iload_n 1, 1) := by decide +kernel
theorem dX4_putNumber_31 : decode cX4_putNumber 31 = .ok (.bipush 10, 2) := by decide +kernel
theorem dX4_putNumber_33 : decode cX4_putNumber 33 = .ok (.if_icmp .lt 17, 3) := by decide +kernel
theorem dX4_putNumber_36 : decode cX4_putNumber 36 = .ok (.aload_n 0, 1) := by decide +kernel
theorem dX4_putNumber_37 : decode cX4_putNumber 37 = .ok (.bipush 48, 2) := by decide +kernel
theorem dX4_putNumber_39 : decode cX4_putNumber 39 = .ok (.iload_n 1, 1) := by decide +kernel
theorem dX4_putNumber_40 : decode cX4_putNumber 40 = .ok (.bipush 10, 2) := by decide +kernel
theorem dX4_putNumber_42 : decode cX4_putNumber 42 = .ok (.idiv, 1) := by decide +kernel
theorem dX4_putNumber_43 : decode cX4_putNumber 43 = .ok (.bipush 10, 2) := by decide +kernel
theorem dX4_putNumber_45 : decode cX4_putNumber 45 = .ok (.irem, 1) := by decide +kernel
theorem dX4_putNumber_46 : decode cX4_putNumber 46 = .ok (.iadd, 1) := by decide +kernel
theorem dX4_putNumber_47 : decode cX4_putNumber 47 = .ok (.invokevirtual 40, 3) := by decide +kernel
theorem dX4_putNumber_50 : decode cX4_putNumber 50 = .ok (.aload_n 0, 1) := by decide +kernel
theorem dX4_putNumber_51 : decode cX4_putNumber 51 = .ok (.bipush 48, 2) := by decide +kernel
theorem dX4_putNumber_53 : decode cX4_putNumber 53 = .ok (.iload_n 1, 1) := by decide +kernel
theorem dX4_putNumber_54 : decode cX4_putNumber 54 = .ok (.bipush 10, 2) := by decide +kernel
theorem dX4_putNumber_56 : decode cX4_putNumber 56 = .ok (.irem, 1) := by decide +kernel
theorem dX4_putNumber_57 : decode cX4_putNumber 57 = .ok (.iadd, 1) := by decide +kernel
theorem dX4_putNumber_58 : decode cX4_putNumber 58 = .ok (.invokevirtual 40, 3) := by decide +kernel
theorem dX4_putNumber_61 : decode cX4_putNumber 61 = .ok (.aload_n 0, 1) := by decide +kernel
theorem dX4_putNumber_62 : decode cX4_putNumber 62 = .ok (.iconst 1, 1) := by decide +kernel
theorem dX4_putNumber_63 : decode cX4_putNumber 63 = .ok (.putfield 31, 3) := by decide +kernel
theorem dX4_putNumber_66 : decode cX4_putNumber 66 = .ok (.return_, 1) := by decide +kernel
theorem dX4_put_0 : decode cX4_put 0 = .ok (.aload_n 0, 1) := by decide +kernel
theorem dX4_put_1 : decode cX4_put 1 = .ok (.iconst 0, 1) := by decide +kernel
theorem dX4_put_2 : decode cX4_put 2 = .ok (.putfield 31, 3) := by decide +kernel
theorem dX4_put_5 : decode cX4_put 5 = .ok (.aload_n 0, 1) := by decide +kernel
theorem dX4_put_6 : decode cX4_put 6 = .ok (.getfield 24, 3) := by decide +kernel
theorem dX4_put_9 : decode cX4_put 9 = .ok (.sipush 240, 3) := by decide +kernel
theorem dX4_put_12 : decode cX4_put 12 = .ok (.if_icmp .ge 23, 3) := by decide +kernel
theorem dX4_put_15 : decode cX4_put 15 = .ok (.aload_n 0, 1) := by decide +kernel
theorem dX4_put_16 : decode cX4_put 16 = .ok (.getfield 11, 3) := by decide +kernel
theorem dX4_put_19 : decode cX4_put 19 = .ok (.aload_n 0, 1) := by decide +kernel
theorem dX4_put_20 : decode cX4_put 20 = .ok (.getfield 24, 3) := by decide +kernel
theorem dX4_put_23 : decode cX4_put 23 = .ok (.iload_n 1, 1) := by decide +kernel
theorem dX4_put_24 : decode cX4_put 24 = .ok (.iastore, 1) := by decide +kernel
theorem dX4_put_25 : decode cX4_put 25 = .ok (.aload_n 0, 1) := by decide +kernel
theorem dX4_put_26 : decode cX4_put 26 = .ok (.dup, 1) := by decide +kernel
theorem dX4_put_27 : decode cX4_put 27 = .ok (.getfield 24, 3) := by decide +kernel
theorem dX4_put_30 : decode cX4_put 30 = .ok (.iconst 1, 1) := by decide +kernel
theorem dX4_put_31 : decode cX4_put 31 = .ok (.iadd, 1) := by decide +kernel
theorem dX4_put_32 : decode cX4_put 32 = .ok (.putfield 24, 3) := by decide +kernel
theorem dX4_put_35 : decode cX4_put 35 = .ok (.return_, 1) := by decide +kernel
theorem dX5_init_0 : decode cX5_init 0 = .ok (.aload_n 0, 1) := by decide +kernel
theorem dX5_init_1 : decode cX5_init 1 = .ok (.invokespecial 3, 3) := by decide +kernel
theorem dX5_init_4 : decode cX5_init 4 = .ok (.aload_n 0, 1) := by decide +kernel
theorem dX5_init_5 : decode cX5_init 5 = .ok (.sipush 1000, 3) := by decide +kernel
theorem dX5_init_8 : decode cX5_init 8 = .ok (.anewarray 9, 3) := by decide +kernel
theorem dX5_init_11 : decode cX5_init 11 = .ok (.putfield 11, 3) := by decide +kernel
theorem dX5_init_14 : decode cX5_init 14 = .ok (.aload_n 0, 1) := by decide +kernel
theorem dX5_init_15 : decode cX5_init 15 = .ok (.sipush 1000, 3) := by decide +kernel
theorem dX5_init_18 : decode cX5_init 18 = .ok (.newarray .int, 2) := by decide +kernel
theorem dX5_init_20 : decode cX5_init 20 = .ok (.putfield 17, 3) := by decide +kernel
theorem dX5_init_23 : decode cX5_init 23 = .ok (.aload_n 0, 1) := by decide +kernel
theorem dX5_init_24 : decode cX5_init 24 = .ok (.sipush 1000, 3) := by decide +kernel
theorem dX5_init_27 : decode cX5_init 27 = .ok (.newarray .int, 2) := by decide +kernel
theorem dX5_init_29 : decode cX5_init 29 = .ok (.putfield 21, 3) := by decide +kernel
theorem dX5_init_32 : decode cX5_init 32 = .ok (.return_, 1) := by decide +kernel
theorem dX5_first_0 : decode cX5_first 0 = .ok (.aload_n 0, 1) := by decide +kernel
theorem dX5_first_1 : decode cX5_first 1 = .ok (.dup, 1) := by decide +kernel
theorem dX5_first_2 : decode cX5_first 2 = .ok (.getfield 24, 3) := by decide +kernel
theorem dX5_first_5 : decode cX5_first 5 = .ok (.iconst 1, 1) := by decide +kernel
theorem dX5_first_6 : decode cX5_first 6 = .ok (.iadd, 1) := by decide +kernel
theorem dX5_first_7 : decode cX5_first 7 = .ok (.putfield 24, 3) := by decide +kernel
theorem dX5_first_10 : decode cX5_first 10 = .ok (.aload_n 0, 1) := by decide +kernel
theorem dX5_first_11 : decode cX5_first 11 = .ok (.iconst 0, 1) := by decide +kernel
theorem dX5_first_12 : decode cX5_first 12 = .ok (.putfield 28, 3) := by decide +kernel
theorem dX5_first_15 : decode cX5_first 15 = .ok (.aload_n 0, 1) := by decide +kernel
theorem dX5_first_16 : decode cX5_first 16 = .ok (.aload_n 1, 1) := by decide +kernel
theorem dX5_first_17 : decode cX5_first 17 = .ok (.aload_n 2, 1) := by decide +kernel
theorem dX5_first_18 : decode cX5_first 18 = .ok (.invokevirtual 31, 3) := by decide +kernel
theorem dX5_first_21 : decode cX5_first 21 = .ok (.iconst 0, 1) := by decide +kernel
theorem dX5_first_22 : decode cX5_first 22 = .ok (.istore_n 3, 1) := by decide +kernel
theorem dX5_first_23 : decode cX5_first 23 = .ok (.iload_n 3, 1) := by decide +kernel
theorem dX5_first_24 : decode cX5_first 24 = .ok (.ldc 35, 2) := by decide +kernel
theorem dX5_first_26 : decode cX5_first 26 = .ok (.if_icmp .ge 123, 3) := by decide +kernel
theorem dX5_first_29 : decode cX5_first 29 = .ok (.aload_n 0, 1) := by decide +kernel
theorem dX5_first_30 : decode cX5_first 30 = .ok (.getfield 28, 3) := by decide +kernel
theorem dX5_first_33 : decode cX5_first 33 = .ok (.ifCond .le 116, 3) := by decide +kernel
theorem dX5_first_36 : decode cX5_first 36 = .ok (.aload_n 0, 1) := by decide +kernel
theorem dX5_first_37 : decode cX5_first 37 = .ok (.getfield 28, 3) := by decide +kernel
theorem dX5_first_40 : decode cX5_first 40 = .ok (.iconst 1, 1) := by decide +kernel
theorem dX5_first_41 : decode cX5_first 41 = .ok (.isub, 1) := by decide +kernel
theorem dX5_first_42 : decode cX5_first 42 = .ok (.istore 4, 2) := by decide +kernel
theorem dX5_first_44 : decode cX5_first 44 = .ok (.aload_n 0, 1) := by decide +kernel
theorem dX5_first_45 : decode cX5_first 45 = .ok (.getfield 17, 3) := by decide +kernel
theorem dX5_first_48 : decode cX5_first 48 = .ok (.iload 4, 2) := by decide +kernel
theorem dX5_first_50 : decode cX5_first 50 = .ok (.iaload, 1) := by decide +kernel
theorem dX5_first_51 : decode cX5_first 51 = .ok (.ifCond .ne 16, 3) := by decide +kernel
theorem dX5_first_54 : decode cX5_first 54 = .ok (.aload_n 0, 1) := by decide +kernel
theorem dX5_first_55 : decode cX5_first 55 = .ok (.dup, 1) := by decide +kernel
theorem dX5_first_56 : decode cX5_first 56 = .ok (.getfield 28, 3) := by decide +kernel
theorem dX5_first_59 : decode cX5_first 59 = .ok (.iconst 1, 1) := by decide +kernel
theorem dX5_first_60 : decode cX5_first 60 = .ok (.isub, 1) := by decide +kernel
theorem dX5_first_61 : decode cX5_first 61 = .ok (.putfield 28, 3) := by decide +kernel
theorem dX5_first_64 : decode cX5_first 64 = .ok (.goto 79, 3) := by decide +kernel
theorem dX5_first_67 : decode cX5_first 67 = .ok (.aload_n 0, 1) := by decide +kernel
theorem dX5_first_68 : decode cX5_first 68 = .ok (.getfield 17, 3) := by decide +kernel
theorem dX5_first_71 : decode cX5_first 71 = .ok (.iload 4, 2) := by decide +kernel
theorem dX5_first_73 : decode cX5_first 73 = .ok (.dup2, 1) := by decide +kernel
theorem dX5_first_74 : decode cX5_first 74 = .ok (.iaload, 1) := by decide +kernel
theorem dX5_first_75 : decode cX5_first 75 = .ok (.iconst 1, 1) := by decide +kernel
theorem dX5_first_76 : decode cX5_first 76 = .ok (.isub, 1) := by decide +kernel
theorem dX5_first_77 : decode cX5_first 77 = .ok (.iastore, 1) := by decide +kernel
theorem dX5_first_78 : decode cX5_first 78 = .ok (.aload_n 0, 1) := by decide +kernel
theorem dX5_first_79 : decode cX5_first 79 = .ok (.getfield 11, 3) := by decide +kernel
theorem dX5_first_82 : decode cX5_first 82 = .ok (.iload 4, 2) := by decide +kernel
theorem dX5_first_84 : decode cX5_first 84 = .ok (.aaload, 1) := by decide +kernel
theorem dX5_first_85 : decode cX5_first 85 = .ok (.getfield 36, 3) := by decide +kernel
theorem dX5_first_88 : decode cX5_first 88 = .ok (.aload_n 0, 1) := by decide +kernel
theorem dX5_first_89 : decode cX5_first 89 = .ok (.getfield 17, 3) := by decide +kernel
theorem dX5_first_92 : decode cX5_first 92 = .ok (.iload 4, 2) := by decide +kernel
theorem dX5_first_94 : decode cX5_first 94 = .ok (.iaload, 1) := by decide +kernel
theorem dX5_first_95 : decode cX5_first 95 = .ok (.aaload, 1) := by decide +kernel
theorem dX5_first_96 : decode cX5_first 96 = .ok (.astore 5, 2) := by decide +kernel
theorem dX5_first_98 : decode cX5_first 98 = .ok (.aload 5, 2) := by decide +kernel
theorem dX5_first_100 : decode cX5_first 100 = .ok (.getfield 40, 3) := by decide +kernel
theorem dX5_first_103 : decode cX5_first 103 = .ok (.bipush 9, 2) := by decide +kernel
theorem dX5_first_105 : decode cX5_first 105 = .ok (.if_icmp .ne 18, 3) := by decide +kernel
theorem dX5_first_108 : decode cX5_first 108 = .ok (.aload_n 2, 1) := by decide +kernel
theorem dX5_first_109 : decode cX5_first 109 = .ok (.aload 5, 2) := by decide +kernel
theorem dX5_first_111 : decode cX5_first 111 = .ok (.getfield 45, 3) := by decide +kernel
theorem dX5_first_114 : decode cX5_first 114 = .ok (.invokevirtual 48, 3) := by decide +kernel
theorem dX5_first_117 : decode cX5_first 117 = .ok (.ifCond .ne 6, 3) := by decide +kernel
theorem dX5_first_120 : decode cX5_first 120 = .ok (.aload 5, 2) := by decide +kernel
theorem dX5_first_122 : decode cX5_first 122 = .ok (.areturn, 1) := by decide +kernel
theorem dX5_first_123 : decode cX5_first 123 = .ok (.aload 5, 2) := by decide +kernel
theorem dX5_first_125 : decode cX5_first 125 = .ok (.getfield 40, 3) := by decide +kernel
theorem dX5_first_128 : decode cX5_first 128 = .ok (.bipush 14, 2) := by decide +kernel
theorem dX5_first_130 : decode cX5_first 130 = .ok (.if_icmp .ne 13, 3) := by decide +kernel
theorem dX5_first_133 : decode cX5_first 133 = .ok (.aload_n 0, 1) := by decide +kernel
theorem dX5_first_134 : decode cX5_first 134 = .ok (.aload 5, 2) := by decide +kernel
theorem dX5_first_136 : decode cX5_first 136 = .ok (.getfield 54, 3) := by decide +kernel
theorem dX5_first_139 : decode cX5_first 139 = .ok (.aload_n 2, 1) := by decide +kernel
theorem dX5_first_140 : decode cX5_first 140 = .ok (.invokevirtual 31, 3) := by decide +kernel
theorem dX5_first_143 : decode cX5_first 143 = .ok (.iinc 3 1, 3) := by decide +kernel
theorem dX5_first_146 : decode cX5_first 146 = .ok (.goto (-123), 3) := by decide +kernel
theorem dX5_first_149 : decode cX5_first 149 = .ok (.aconst_null, 1) := by decide +kernel
theorem dX5_first_150 : decode cX5_first 150 = .ok (.areturn, 1) := by decide +kernel
theorem dX5_visit_0 : decode cX5_visit 0 = .ok (.aload_n 1, 1) := by decide +kernel
theorem dX5_visit_1 : decode cX5_visit 1 = .ok (.ifnull 11, 3) := by decide +kernel
theorem dX5_visit_4 : decode cX5_visit 4 = .ok (.aload_n 2, 1) := by decide +kernel
theorem dX5_visit_5 : decode cX5_visit 5 = .ok (.aload_n 1, 1) := by decide +kernel
theorem dX5_visit_6 : decode cX5_visit 6 = .ok (.invokevirtual 58, 3) := by decide +kernel
theorem dX5_visit_9 : decode cX5_visit 9 = .ok (.ifCond .le 4, 3) := by decide +kernel
theorem dX5_visit_12 : decode cX5_visit 12 = .ok (.return_, 1) := by decide +kernel
theorem dX5_visit_13 : decode cX5_visit 13 = .ok (.aload_n 1, 1) := by decide +kernel
theorem dX5_visit_14 : decode cX5_visit 14 = .ok (.getfield 62, 3) := by decide +kernel
theorem dX5_visit_17 : decode cX5_visit 17 = .ok (.istore_n 3, 1) := by decide +kernel
theorem dX5_visit_18 : decode cX5_visit 18 = .ok (.aload_n 0, 1) := by decide +kernel
theorem dX5_visit_19 : decode cX5_visit 19 = .ok (.getfield 28, 3) := by decide +kernel
theorem dX5_visit_22 : decode cX5_visit 22 = .ok (.aload_n 0, 1) := by decide +kernel
theorem dX5_visit_23 : decode cX5_visit 23 = .ok (.getfield 11, 3) := by decide +kernel
theorem dX5_visit_26 : decode cX5_visit 26 = .ok (.arraylength, 1) := by decide +kernel
theorem dX5_visit_27 : decode cX5_visit 27 = .ok (.if_icmp .ge 23, 3) := by decide +kernel
theorem dX5_visit_30 : decode cX5_visit 30 = .ok (.iload_n 3, 1) := by decide +kernel
theorem dX5_visit_31 : decode cX5_visit 31 = .ok (.invokestatic 65, 3) := by decide +kernel
theorem dX5_visit_34 : decode cX5_visit 34 = .ok (.ifCond .eq 16, 3) := by decide +kernel
theorem dX5_visit_37 : decode cX5_visit 37 = .ok (.aload_n 0, 1) := by decide +kernel
theorem dX5_visit_38 : decode cX5_visit 38 = .ok (.getfield 21, 3) := by decide +kernel
theorem dX5_visit_41 : decode cX5_visit 41 = .ok (.iload_n 3, 1) := by decide +kernel
theorem dX5_visit_42 : decode cX5_visit 42 = .ok (.iaload, 1) := by decide +kernel
theorem dX5_visit_43 : decode cX5_visit 43 = .ok (.aload_n 0, 1) := by decide +kernel
theorem dX5_visit_44 : decode cX5_visit 44 = .ok (.getfield 24, 3) := by decide +kernel
theorem dX5_visit_47 : decode cX5_visit 47 = .ok (.if_icmp .ne 4, 3) := by decide +kernel
theorem dX5_visit_50 : decode cX5_visit 50 = .ok (.return_, 1) := by decide +kernel
theorem dX5_visit_51 : decode cX5_visit 51 = .ok (.aload_n 0, 1) := by decide +kernel
theorem dX5_visit_52 : decode cX5_visit 52 = .ok (.getfield 21, 3) := by decide +kernel
theorem dX5_visit_55 : decode cX5_visit 55 = .ok (.iload_n 3, 1) := by decide +kernel
theorem dX5_visit_56 : decode cX5_visit 56 = .ok (.aload_n 0, 1) := by decide +kernel
theorem dX5_visit_57 : decode cX5_visit 57 = .ok (.getfield 24, 3) := by decide +kernel
theorem dX5_visit_60 : decode cX5_visit 60 = .ok (.iastore, 1) := by decide +kernel
theorem dX5_visit_61 : decode cX5_visit 61 = .ok (.aload_n 0, 1) := by decide +kernel
theorem dX5_visit_62 : decode cX5_visit 62 = .ok (.getfield 11, 3) := by decide +kernel
theorem dX5_visit_65 : decode cX5_visit 65 = .ok (.aload_n 0, 1) := by decide +kernel
theorem dX5_visit_66 : decode cX5_visit 66 = .ok (.getfield 28, 3) := by decide +kernel
theorem dX5_visit_69 : decode cX5_visit 69 = .ok (.aload_n 1, 1) := by decide +kernel
theorem dX5_visit_70 : decode cX5_visit 70 = .ok (.aastore, 1) := by decide +kernel
theorem dX5_visit_71 : decode cX5_visit 71 = .ok (.aload_n 0, 1) := by decide +kernel
theorem dX5_visit_72 : decode cX5_visit 72 = .ok (.getfield 17, 3) := by decide +kernel
theorem dX5_visit_75 : decode cX5_visit 75 = .ok (.aload_n 0, 1) := by decide +kernel
theorem dX5_visit_76 : decode cX5_visit 76 = .ok (.getfield 28, 3) := by decide +kernel
theorem dX5_visit_79 : decode cX5_visit 79 = .ok (.aload_n 1, 1) := by decide +kernel
theorem dX5_visit_80 : decode cX5_visit 80 = .ok (.getfield 36, 3) := by decide +kernel
theorem dX5_visit_83 : decode cX5_visit 83 = .ok (.arraylength, 1) := by decide +kernel
theorem dX5_visit_84 : decode cX5_visit 84 = .ok (.iastore, 1) := by decide +kernel
theorem dX5_visit_85 : decode cX5_visit 85 = .ok (.aload_n 0, 1) := by decide +kernel
theorem dX5_visit_86 : decode cX5_visit 86 = .ok (.dup, 1) := by decide +kernel
theorem dX5_visit_87 : decode cX5_visit 87 = .ok (.getfield 28, 3) := by decide +kernel
theorem dX5_visit_90 : decode cX5_visit 90 = .ok (.iconst 1, 1) := by decide +kernel
theorem dX5_visit_91 : decode cX5_visit 91 = .ok (.iadd, 1) := by decide +kernel
theorem dX5_visit_92 : decode cX5_visit 92 = .ok (.putfield 28, 3) := by decide +kernel
theorem dX5_visit_95 : decode cX5_visit 95 = .ok (.return_, 1) := by decide +kernel
theorem dX6_init_0 : decode cX6_init 0 = .ok (.aload_n 0, 1) := by decide +kernel
theorem dX6_init_1 : decode cX6_init 1 = .ok (.invokespecial 3, 3) := by decide +kernel
theorem dX6_init_4 : decode cX6_init 4 = .ok (.aload_n 0, 1) := by decide +kernel
theorem dX6_init_5 : decode cX6_init 5 = .ok (.bipush 120, 2) := by decide +kernel
theorem dX6_init_7 : decode cX6_init 7 = .ok (.anewarray 9, 3) := by decide +kernel
theorem dX6_init_10 : decode cX6_init 10 = .ok (.putfield 11, 3) := by decide +kernel
theorem dX6_init_13 : decode cX6_init 13 = .ok (.aload_n 0, 1) := by decide +kernel
theorem dX6_init_14 : decode cX6_init 14 = .ok (.bipush 121, 2) := by decide +kernel
theorem dX6_init_16 : decode cX6_init 16 = .ok (.anewarray 9, 3) := by decide +kernel
theorem dX6_init_19 : decode cX6_init 19 = .ok (.putfield 17, 3) := by decide +kernel
theorem dX6_init_22 : decode cX6_init 22 = .ok (.aload_n 0, 1) := by decide +kernel
theorem dX6_init_23 : decode cX6_init 23 = .ok (.bipush 121, 2) := by decide +kernel
theorem dX6_init_25 : decode cX6_init 25 = .ok (.newarray .int, 2) := by decide +kernel
theorem dX6_init_27 : decode cX6_init 27 = .ok (.putfield 20, 3) := by decide +kernel
theorem dX6_init_30 : decode cX6_init 30 = .ok (.aload_n 0, 1) := by decide +kernel
theorem dX6_init_31 : decode cX6_init 31 = .ok (.bipush 121, 2) := by decide +kernel
theorem dX6_init_33 : decode cX6_init 33 = .ok (.newarray .int, 2) := by decide +kernel
theorem dX6_init_35 : decode cX6_init 35 = .ok (.putfield 24, 3) := by decide +kernel
theorem dX6_init_38 : decode cX6_init 38 = .ok (.aload_n 0, 1) := by decide +kernel
theorem dX6_init_39 : decode cX6_init 39 = .ok (.bipush 121, 2) := by decide +kernel
theorem dX6_init_41 : decode cX6_init 41 = .ok (.newarray .int, 2) := by decide +kernel
theorem dX6_init_43 : decode cX6_init 43 = .ok (.putfield 27, 3) := by decide +kernel
theorem dX6_init_46 : decode cX6_init 46 = .ok (.aload_n 0, 1) := by decide +kernel
theorem dX6_init_47 : decode cX6_init 47 = .ok (.bipush 121, 2) := by decide +kernel
theorem dX6_init_49 : decode cX6_init 49 = .ok (.anewarray 9, 3) := by decide +kernel
theorem dX6_init_52 : decode cX6_init 52 = .ok (.putfield 30, 3) := by decide +kernel
theorem dX6_init_55 : decode cX6_init 55 = .ok (.return_, 1) := by decide +kernel
theorem dX6_read_0 : decode cX6_read 0 = .ok (.aload_n 0, 1) := by decide +kernel
theorem dX6_read_1 : decode cX6_read 1 = .ok (.iconst 0, 1) := by decide +kernel
theorem dX6_read_2 : decode cX6_read 2 = .ok (.putfield 33, 3) := by decide +kernel
theorem dX6_read_5 : decode cX6_read 5 = .ok (.aload_n 0, 1) := by decide +kernel
theorem dX6_read_6 : decode cX6_read 6 = .ok (.iconst 0, 1) := by decide +kernel
theorem dX6_read_7 : decode cX6_read 7 = .ok (.putfield 37, 3) := by decide +kernel
theorem dX6_read_10 : decode cX6_read 10 = .ok (.aload_n 0, 1) := by decide +kernel
theorem dX6_read_11 : decode cX6_read 11 = .ok (.iconst 0, 1) := by decide +kernel
theorem dX6_read_12 : decode cX6_read 12 = .ok (.putfield 40, 3) := by decide +kernel
theorem dX6_read_15 : decode cX6_read 15 = .ok (.aload_n 0, 1) := by decide +kernel
theorem dX6_read_16 : decode cX6_read 16 = .ok (.iconst 0, 1) := by decide +kernel
theorem dX6_read_17 : decode cX6_read 17 = .ok (.putfield 43, 3) := by decide +kernel
theorem dX6_read_20 : decode cX6_read 20 = .ok (.aload_n 0, 1) := by decide +kernel
theorem dX6_read_21 : decode cX6_read 21 = .ok (.getfield 27, 3) := by decide +kernel
theorem dX6_read_24 : decode cX6_read 24 = .ok (.iconst 0, 1) := by decide +kernel
theorem dX6_read_25 : decode cX6_read 25 = .ok (.iload_n 3, 1) := by decide +kernel
theorem dX6_read_26 : decode cX6_read 26 = .ok (.ifCond .eq 8, 3) := by decide +kernel
theorem dX6_read_29 : decode cX6_read 29 = .ok (.ldc 46, 2) := by decide +kernel
theorem dX6_read_31 : decode cX6_read 31 = .ok (.goto 4, 3) := by decide +kernel
theorem dX6_read_34 : decode cX6_read 34 = .ok (.iconst 0, 1) := by decide +kernel
theorem dX6_read_35 : decode cX6_read 35 = .ok (.iastore, 1) := by decide +kernel
theorem dX6_read_36 : decode cX6_read 36 = .ok (.iconst 0, 1) := by decide +kernel
theorem dX6_read_37 : decode cX6_read 37 = .ok (.istore 4, 2) := by decide +kernel
theorem dX6_read_39 : decode cX6_read 39 = .ok (.iload 4, 2) := by decide +kernel
theorem dX6_read_41 : decode cX6_read 41 = .ok (.iload_n 2, 1) := by decide +kernel
theorem dX6_read_42 : decode cX6_read 42 = .ok (.if_icmp .ge 81, 3) := by decide +kernel
theorem dX6_read_45 : decode cX6_read 45 = .ok (.iload 4, 2) := by decide +kernel
theorem dX6_read_47 : decode cX6_read 47 = .ok (.aload_n 1, 1) := by decide +kernel
theorem dX6_read_48 : decode cX6_read 48 = .ok (.arraylength, 1) := by decide +kernel
theorem dX6_read_49 : decode cX6_read 49 = .ok (.if_icmp .ge 74, 3) := by decide +kernel
theorem dX6_read_52 : decode cX6_read 52 = .ok (.aload_n 1, 1) := by decide +kernel
theorem dX6_read_53 : decode cX6_read 53 = .ok (.iload 4, 2) := by decide +kernel
theorem dX6_read_55 : decode cX6_read 55 = .ok (.iaload, 1) := by decide +kernel
theorem dX6_read_56 : decode cX6_read 56 = .ok (.istore 5, 2) := by decide +kernel
theorem dX6_read_58 : decode cX6_read 58 = .ok (.iload 5, 2) := by decide +kernel
theorem dX6_read_60 : decode cX6_read 60 = .ok (.bipush 32, 2) := by decide +kernel
theorem dX6_read_62 : decode cX6_read 62 = .ok (.if_icmp .ne 11, 3) := by decide +kernel
theorem dX6_read_65 : decode cX6_read 65 = .ok (.aload_n 0, 1) := by decide +kernel
theorem dX6_read_66 : decode cX6_read 66 = .ok (.iconst 0, 1) := by decide +kernel
theorem dX6_read_67 : decode cX6_read 67 = .ok (.putfield 40, 3) := by decide +kernel
theorem dX6_read_70 : decode cX6_read 70 = .ok (.goto 47, 3) := by decide +kernel
theorem dX6_read_73 : decode cX6_read 73 = .ok (.iload 5, 2) := by decide +kernel
theorem dX6_read_75 : decode cX6_read 75 = .ok (.invokestatic 47, 3) := by decide +kernel
theorem dX6_read_78 : decode cX6_read 78 = .ok (.ifCond .eq 27, 3) := by decide +kernel
theorem dX6_read_81 : decode cX6_read 81 = .ok (.aload_n 0, 1) := by decide +kernel
theorem dX6_read_82 : decode cX6_read 82 = .ok (.getfield 40, 3) := by decide +kernel
theorem dX6_read_85 : decode cX6_read 85 = .ok (.ifCond .le 20, 3) := by decide +kernel
theorem dX6_read_88 : decode cX6_read 88 = .ok (.aload_n 0, 1) := by decide +kernel
theorem dX6_read_89 : decode cX6_read 89 = .ok (.getfield 40, 3) := by decide +kernel
theorem dX6_read_92 : decode cX6_read 92 = .ok (.iconst 3, 1) := by decide +kernel
theorem dX6_read_93 : decode cX6_read 93 = .ok (.if_icmp .ge 12, 3) := by decide +kernel
theorem dX6_read_96 : decode cX6_read 96 = .ok (.aload_n 0, 1) := by decide +kernel
theorem dX6_read_97 : decode cX6_read 97 = .ok (.iload 5, 2) := by decide +kernel
theorem dX6_read_99 : decode cX6_read 99 = .ok (.invokevirtual 51, 3) := by decide +kernel
theorem dX6_read_102 : decode cX6_read 102 = .ok (.goto 15, 3) := by decide +kernel
theorem dX6_read_105 : decode cX6_read 105 = .ok (.aload_n 0, 1) := by decide +kernel
theorem dX6_read_106 : decode cX6_read 106 = .ok (.iload 5, 2) := by decide +kernel
theorem dX6_read_108 : decode cX6_read 108 = .ok (.invokevirtual 55, 3) := by decide +kernel
theorem dX6_read_111 : decode cX6_read 111 = .ok (.ifCond .ne 6, 3) := by decide +kernel
theorem dX6_read_114 : decode cX6_read 114 = .ok (.iload 4, 2) := by decide +kernel
theorem dX6_read_116 : decode cX6_read 116 = .ok (.ireturn, 1) := by decide +kernel
theorem dX6_read_117 : decode cX6_read 117 = .ok (.iinc 4 1, 3) := by decide +kernel
theorem dX6_read_120 : decode cX6_read 120 = .ok (.goto (-81), 3) := by decide +kernel
theorem dX6_read_123 : decode cX6_read 123 = .ok (.aload_n 0, 1) := by decide +kernel
theorem dX6_read_124 : decode cX6_read 124 = .ok (.getfield 43, 3) := by decide +kernel
theorem dX6_read_127 : decode cX6_read 127 = .ok (.iconst 5, 1) := by decide +kernel
theorem dX6_read_128 : decode cX6_read 128 = .ok (.if_icmp .ne 8, 3) := by decide +kernel
theorem dX6_read_131 : decode cX6_read 131 = .ok (.bipush (-9), 2) := by decide +kernel
theorem dX6_read_133 : decode cX6_read 133 = .ok (.goto 4, 3) := by decide +kernel
theorem dX6_read_136 : decode cX6_read 136 = .ok (.iload_n 2, 1) := by decide +kernel
theorem dX6_read_137 : decode cX6_read 137 = .ok (.ireturn, 1) := by decide +kernel
theorem dX6_body_0 : decode cX6_body 0 = .ok (.aload_n 0, 1) := by decide +kernel
theorem dX6_body_1 : decode cX6_body 1 = .ok (.getfield 33, 3) := by decide +kernel
theorem dX6_body_4 : decode cX6_body 4 = .ok (.anewarray 9, 3) := by decide +kernel
theorem dX6_body_7 : decode cX6_body 7 = .ok (.astore_n 1, 1) := by decide +kernel
theorem dX6_body_8 : decode cX6_body 8 = .ok (.iconst 0, 1) := by decide +kernel
theorem dX6_body_9 : decode cX6_body 9 = .ok (.istore_n 2, 1) := by decide +kernel
theorem dX6_body_10 : decode cX6_body 10 = .ok (.iload_n 2, 1) := by decide +kernel
theorem dX6_body_11 : decode cX6_body 11 = .ok (.aload_n 0, 1) := by decide +kernel
theorem dX6_body_12 : decode cX6_body 12 = .ok (.getfield 33, 3) := by decide +kernel
theorem dX6_body_15 : decode cX6_body 15 = .ok (.if_icmp .ge 18, 3) := by decide +kernel
theorem dX6_body_18 : decode cX6_body 18 = .ok (.aload_n 1, 1) := by decide +kernel
theorem dX6_body_19 : decode cX6_body 19 = .ok (.iload_n 2, 1) := by decide +kernel
theorem dX6_body_20 : decode cX6_body 20 = .ok (.aload_n 0, 1) := by decide +kernel
theorem dX6_body_21 : decode cX6_body 21 = .ok (.getfield 11, 3) := by decide +kernel
theorem dX6_body_24 : decode cX6_body 24 = .ok (.iload_n 2, 1) := by decide +kernel
theorem dX6_body_25 : decode cX6_body 25 = .ok (.aaload, 1) := by decide +kernel
theorem dX6_body_26 : decode cX6_body 26 = .ok (.aastore, 1) := by decide +kernel
theorem dX6_body_27 : decode cX6_body 27 = .ok (.iinc 2 1, 3) := by decide +kernel
theorem dX6_body_30 : decode cX6_body 30 = .ok (.goto (-20), 3) := by decide +kernel
theorem dX6_body_33 : decode cX6_body 33 = .ok (.new 58, 3) := by decide +kernel
theorem dX6_body_36 : decode cX6_body 36 = .ok (.dup, 1) := by decide +kernel
theorem dX6_body_37 : decode cX6_body 37 = .ok (.aload_n 0, 1) := by decide +kernel
theorem dX6_body_38 : decode cX6_body 38 = .ok (.getfield 11, 3) := by decide +kernel
theorem dX6_body_41 : decode cX6_body 41 = .ok (.iconst 0, 1) := by decide +kernel
theorem dX6_body_42 : decode cX6_body 42 = .ok (.aaload, 1) := by decide +kernel
theorem dX6_body_43 : decode cX6_body 43 = .ok (.aload_n 1, 1) := by decide +kernel
theorem dX6_body_44 : decode cX6_body 44 = .ok (.invokespecial 60, 3) := by decide +kernel
theorem dX6_body_47 : decode cX6_body 47 = .ok (.areturn, 1) := by decide +kernel
theorem dX6_addDigit_0 : decode cX6_addDigit 0 = .ok (.aload_n 0, 1) := by decide +kernel
theorem dX6_addDigit_1 : decode cX6_addDigit 1 = .ok (.getfield 33, 3) := by decide +kernel
theorem dX6_addDigit_4 : decode cX6_addDigit 4 = .ok (.ifCond .le 39, 3) := by decide +kernel
theorem dX6_addDigit_7 : decode cX6_addDigit 7 = .ok (.aload_n 0, 1) := by decide +kernel
theorem dX6_addDigit_8 : decode cX6_addDigit 8 = .ok (.getfield 11, 3) := by decide +kernel
theorem dX6_addDigit_11 : decode cX6_addDigit 11 = .ok (.aload_n 0, 1) := by decide +kernel
theorem dX6_addDigit_12 : decode cX6_addDigit 12 = .ok (.getfield 33, 3) := by decide +kernel
theorem dX6_addDigit_15 : decode cX6_addDigit 15 = .ok (.iconst 1, 1) := by decide +kernel
theorem dX6_addDigit_16 : decode cX6_addDigit 16 = .ok (.isub, 1) := by decide +kernel
theorem dX6_addDigit_17 : decode cX6_addDigit 17 = .ok (.aaload, 1) := by decide +kernel
theorem dX6_addDigit_18 : decode cX6_addDigit 18 = .ok (.aload_n 0, 1) := by decide +kernel
theorem dX6_addDigit_19 : decode cX6_addDigit 19 = .ok (.getfield 11, 3) := by decide +kernel
theorem dX6_addDigit_22 : decode cX6_addDigit 22 = .ok (.aload_n 0, 1) := by decide +kernel
theorem dX6_addDigit_23 : decode cX6_addDigit 23 = .ok (.getfield 33, 3) := by decide +kernel
theorem dX6_addDigit_26 : decode cX6_addDigit 26 = .ok (.iconst 1, 1) := by decide +kernel
theorem dX6_addDigit_27 : decode cX6_addDigit 27 = .ok (.isub, 1) := by decide +kernel
theorem dX6_addDigit_28 : decode cX6_addDigit 28 = .ok (.aaload, 1) := by decide +kernel
theorem dX6_addDigit_29 : decode cX6_addDigit 29 = .ok (.getfield 63, 3) := by decide +kernel
theorem dX6_addDigit_32 : decode cX6_addDigit 32 = .ok (.bipush 10, 2) := by decide +kernel
theorem dX6_addDigit_34 : decode cX6_addDigit 34 = .ok (.imul, 1) := by decide +kernel
theorem dX6_addDigit_35 : decode cX6_addDigit 35 = .ok (.iload_n 1, 1) := by decide +kernel
theorem dX6_addDigit_36 : decode cX6_addDigit 36 = .ok (.bipush 48, 2) := by decide +kernel
theorem dX6_addDigit_38 : decode cX6_addDigit 38 = .ok (.isub, 1) := by decide +kernel
theorem dX6_addDigit_39 : decode cX6_addDigit 39 = .ok (.iadd, 1) := by decide +kernel
theorem dX6_addDigit_40 : decode cX6_addDigit 40 = .ok (.putfield 63, 3) := by decide +kernel
theorem dX6_addDigit_43 : decode cX6_addDigit 43 = .ok (.aload_n 0, 1) := by decide +kernel
theorem dX6_addDigit_44 : decode cX6_addDigit 44 = .ok (.dup, 1) := by decide +kernel
theorem dX6_addDigit_45 : decode cX6_addDigit 45 = .ok (.getfield 40, 3) := by decide +kernel
theorem dX6_addDigit_48 : decode cX6_addDigit 48 = .ok (.iconst 1, 1) := by decide +kernel
theorem dX6_addDigit_49 : decode cX6_addDigit 49 = .ok (.iadd, 1) := by decide +kernel
theorem dX6_addDigit_50 : decode cX6_addDigit 50 = .ok (.putfield 40, 3) := by decide +kernel
theorem dX6_addDigit_53 : decode cX6_addDigit 53 = .ok (.return_, 1) := by decide +kernel
theorem dX6_accept_0 : decode cX6_accept 0 = .ok (.aload_n 0, 1) := by decide +kernel
theorem dX6_accept_1 : decode cX6_accept 1 = .ok (.iconst 0, 1) := by decide +kernel
theorem dX6_accept_2 : decode cX6_accept 2 = .ok (.putfield 40, 3) := by decide +kernel
theorem dX6_accept_5 : decode cX6_accept 5 = .ok (.aload_n 0, 1) := by decide +kernel
theorem dX6_accept_6 : decode cX6_accept 6 = .ok (.getfield 43, 3) := by decide +kernel
theorem dX6_accept_9 : decode cX6_accept 9 = .ok (.tableswitch 72 0 4 #[35, 41, 47, 57, 66], 35) := by decide +kernel
theorem dX6_accept_44 : decode cX6_accept 44 = .ok (.aload_n 0, 1) := by decide +kernel
theorem dX6_accept_45 : decode cX6_accept 45 = .ok (.iload_n 1, 1) := by decide +kernel
theorem dX6_accept_46 : decode cX6_accept 46 = .ok (.invokevirtual 66, 3) := by decide +kernel
theorem dX6_accept_49 : decode cX6_accept 49 = .ok (.ireturn, 1) := by decide +kernel
theorem dX6_accept_50 : decode cX6_accept 50 = .ok (.aload_n 0, 1) := by decide +kernel
theorem dX6_accept_51 : decode cX6_accept 51 = .ok (.iload_n 1, 1) := by decide +kernel
theorem dX6_accept_52 : decode cX6_accept 52 = .ok (.invokevirtual 69, 3) := by decide +kernel
theorem dX6_accept_55 : decode cX6_accept 55 = .ok (.ireturn, 1) := by decide +kernel
theorem dX6_accept_56 : decode cX6_accept 56 = .ok (.aload_n 0, 1) := by decide +kernel
theorem dX6_accept_57 : decode cX6_accept 57 = .ok (.iload_n 1, 1) := by decide +kernel
theorem dX6_accept_58 : decode cX6_accept 58 = .ok (.bipush 65, 2) := by decide +kernel
theorem dX6_accept_60 : decode cX6_accept 60 = .ok (.bipush 6, 2) := by decide +kernel
theorem dX6_accept_62 : decode cX6_accept 62 = .ok (.invokevirtual 72, 3) := by decide +kernel
theorem dX6_accept_65 : decode cX6_accept 65 = .ok (.ireturn, 1) := by decide +kernel
theorem dX6_accept_66 : decode cX6_accept 66 = .ok (.aload_n 0, 1) := by decide +kernel
theorem dX6_accept_67 : decode cX6_accept 67 = .ok (.iload_n 1, 1) := by decide +kernel
theorem dX6_accept_68 : decode cX6_accept 68 = .ok (.bipush 48, 2) := by decide +kernel
theorem dX6_accept_70 : decode cX6_accept 70 = .ok (.iconst 4, 1) := by decide +kernel
theorem dX6_accept_71 : decode cX6_accept 71 = .ok (.invokevirtual 72, 3) := by decide +kernel
theorem dX6_accept_74 : decode cX6_accept 74 = .ok (.ireturn, 1) := by decide +kernel
theorem dX6_accept_75 : decode cX6_accept 75 = .ok (.aload_n 0, 1) := by decide +kernel
theorem dX6_accept_76 : decode cX6_accept 76 = .ok (.iload_n 1, 1) := by decide +kernel
theorem dX6_accept_77 : decode cX6_accept 77 = .ok (.invokevirtual 76, 3) := by decide +kernel
theorem dX6_accept_80 : decode cX6_accept 80 = .ok (.ireturn, 1) := by decide +kernel
theorem dX6_accept_81 : decode cX6_accept 81 = .ok (.iconst 0, 1) := by decide +kernel
theorem dX6_accept_82 : decode cX6_accept 82 = .ok (.ireturn, 1) := by decide +kernel
theorem dX6_acceptExpression_0 : decode cX6_acceptExpression 0 = .ok (.iload_n 1, 1) := by decide +kernel
theorem dX6_acceptExpression_1 : decode cX6_acceptExpression 1 = .ok (.invokestatic 47, 3) := by decide +kernel
theorem dX6_acceptExpression_4 : decode cX6_acceptExpression 4 = .ok (.ifCond .eq 19, 3) := by decide +kernel
theorem dX6_acceptExpression_7 : decode cX6_acceptExpression 7 = .ok (.aload_n 0, 1) := by decide +kernel
theorem dX6_acceptExpression_8 : decode cX6_acceptExpression 8 = .ok (.iconst 1, 1) := by decide +kernel
theorem dX6_acceptExpression_9 : decode cX6_acceptExpression 9 = .ok (.putfield 40, 3) := by decide +kernel
theorem dX6_acceptExpression_12 : decode cX6_acceptExpression 12 = .ok (.aload_n 0, 1) := by decide +kernel
theorem dX6_acceptExpression_13 : decode cX6_acceptExpression 13 = .ok (.bipush 48, 2) := by decide +kernel
theorem dX6_acceptExpression_15 : decode cX6_acceptExpression 15 = .ok (.iload_n 1, 1) := by decide +kernel
theorem dX6_acceptExpression_16 : decode cX6_acceptExpression 16 = .ok (.bipush 48, 2) := by decide +kernel
theorem dX6_acceptExpression_18 : decode cX6_acceptExpression 18 = .ok (.isub, 1) := by decide +kernel
theorem dX6_acceptExpression_19 : decode cX6_acceptExpression 19 = .ok (.invokevirtual 79, 3) := by decide +kernel
theorem dX6_acceptExpression_22 : decode cX6_acceptExpression 22 = .ok (.ireturn, 1) := by decide +kernel
theorem dX6_acceptExpression_23 : decode cX6_acceptExpression 23 = .ok (.iload_n 1, 1) := by decide +kernel
theorem dX6_acceptExpression_24 : decode cX6_acceptExpression 24 = .ok (.invokestatic 83, 3) := by decide +kernel
theorem dX6_acceptExpression_27 : decode cX6_acceptExpression 27 = .ok (.ifCond .eq 40, 3) := by decide +kernel
theorem dX6_acceptExpression_30 : decode cX6_acceptExpression 30 = .ok (.iload_n 1, 1) := by decide +kernel
theorem dX6_acceptExpression_31 : decode cX6_acceptExpression 31 = .ok (.bipush 97, 2) := by decide +kernel
theorem dX6_acceptExpression_33 : decode cX6_acceptExpression 33 = .ok (.isub, 1) := by decide +kernel
theorem dX6_acceptExpression_34 : decode cX6_acceptExpression 34 = .ok (.istore_n 2, 1) := by decide +kernel
theorem dX6_acceptExpression_35 : decode cX6_acceptExpression 35 = .ok (.aload_n 0, 1) := by decide +kernel
theorem dX6_acceptExpression_36 : decode cX6_acceptExpression 36 = .ok (.getfield 27, 3) := by decide +kernel
theorem dX6_acceptExpression_39 : decode cX6_acceptExpression 39 = .ok (.aload_n 0, 1) := by decide +kernel
theorem dX6_acceptExpression_40 : decode cX6_acceptExpression 40 = .ok (.getfield 37, 3) := by decide +kernel
theorem dX6_acceptExpression_43 : decode cX6_acceptExpression 43 = .ok (.iaload, 1) := by decide +kernel
theorem dX6_acceptExpression_44 : decode cX6_acceptExpression 44 = .ok (.iload_n 2, 1) := by decide +kernel
theorem dX6_acceptExpression_45 : decode cX6_acceptExpression 45 = .ok (.ishr, 1) := by decide +kernel
theorem dX6_acceptExpression_46 : decode cX6_acceptExpression 46 = .ok (.iconst 1, 1) := by decide +kernel
theorem dX6_acceptExpression_47 : decode cX6_acceptExpression 47 = .ok (.iand, 1) := by decide +kernel
theorem dX6_acceptExpression_48 : decode cX6_acceptExpression 48 = .ok (.ifCond .eq 17, 3) := by decide +kernel
theorem dX6_acceptExpression_51 : decode cX6_acceptExpression 51 = .ok (.aload_n 0, 1) := by decide +kernel
theorem dX6_acceptExpression_52 : decode cX6_acceptExpression 52 = .ok (.bipush 97, 2) := by decide +kernel
theorem dX6_acceptExpression_54 : decode cX6_acceptExpression 54 = .ok (.iload_n 2, 1) := by decide +kernel
theorem dX6_acceptExpression_55 : decode cX6_acceptExpression 55 = .ok (.invokevirtual 79, 3) := by decide +kernel
theorem dX6_acceptExpression_58 : decode cX6_acceptExpression 58 = .ok (.ifCond .eq 7, 3) := by decide +kernel
theorem dX6_acceptExpression_61 : decode cX6_acceptExpression 61 = .ok (.iconst 1, 1) := by decide +kernel
theorem dX6_acceptExpression_62 : decode cX6_acceptExpression 62 = .ok (.goto 4, 3) := by decide +kernel
theorem dX6_acceptExpression_65 : decode cX6_acceptExpression 65 = .ok (.iconst 0, 1) := by decide +kernel
theorem dX6_acceptExpression_66 : decode cX6_acceptExpression 66 = .ok (.ireturn, 1) := by decide +kernel
theorem dX6_acceptExpression_67 : decode cX6_acceptExpression 67 = .ok (.iload_n 1, 1) := by decide +kernel
theorem dX6_acceptExpression_68 : decode cX6_acceptExpression 68 = .ok (.lookupswitch 179 #[(33, 124), (37, 124), (38, 145), (42, 124), (43, 124), (45, 124), (59, 124), (60, 124), (61, 131), (63, 124), (64, 152), (94, 138), (123, 124), (126, 138)], 124) := by decide +kernel
theorem dX6_acceptExpression_192 : decode cX6_acceptExpression 192 = .ok (.aload_n 0, 1) := by decide +kernel
theorem dX6_acceptExpression_193 : decode cX6_acceptExpression 193 = .ok (.iload_n 1, 1) := by decide +kernel
theorem dX6_acceptExpression_194 : decode cX6_acceptExpression 194 = .ok (.iconst 0, 1) := by decide +kernel
theorem dX6_acceptExpression_195 : decode cX6_acceptExpression 195 = .ok (.invokevirtual 86, 3) := by decide +kernel
theorem dX6_acceptExpression_198 : decode cX6_acceptExpression 198 = .ok (.ireturn, 1) := by decide +kernel
theorem dX6_acceptExpression_199 : decode cX6_acceptExpression 199 = .ok (.aload_n 0, 1) := by decide +kernel
theorem dX6_acceptExpression_200 : decode cX6_acceptExpression 200 = .ok (.iload_n 1, 1) := by decide +kernel
theorem dX6_acceptExpression_201 : decode cX6_acceptExpression 201 = .ok (.iconst 1, 1) := by decide +kernel
theorem dX6_acceptExpression_202 : decode cX6_acceptExpression 202 = .ok (.invokevirtual 86, 3) := by decide +kernel
theorem dX6_acceptExpression_205 : decode cX6_acceptExpression 205 = .ok (.ireturn, 1) := by decide +kernel
theorem dX6_acceptExpression_206 : decode cX6_acceptExpression 206 = .ok (.aload_n 0, 1) := by decide +kernel
theorem dX6_acceptExpression_207 : decode cX6_acceptExpression 207 = .ok (.iload_n 1, 1) := by decide +kernel
theorem dX6_acceptExpression_208 : decode cX6_acceptExpression 208 = .ok (.iconst 2, 1) := by decide +kernel
theorem dX6_acceptExpression_209 : decode cX6_acceptExpression 209 = .ok (.invokevirtual 86, 3) := by decide +kernel
theorem dX6_acceptExpression_212 : decode cX6_acceptExpression 212 = .ok (.ireturn, 1) := by decide +kernel
theorem dX6_acceptExpression_213 : decode cX6_acceptExpression 213 = .ok (.aload_n 0, 1) := by decide +kernel
theorem dX6_acceptExpression_214 : decode cX6_acceptExpression 214 = .ok (.iload_n 1, 1) := by decide +kernel
theorem dX6_acceptExpression_215 : decode cX6_acceptExpression 215 = .ok (.iconst 3, 1) := by decide +kernel
theorem dX6_acceptExpression_216 : decode cX6_acceptExpression 216 = .ok (.invokevirtual 86, 3) := by decide +kernel
theorem dX6_acceptExpression_219 : decode cX6_acceptExpression 219 = .ok (.ireturn, 1) := by decide +kernel
theorem dX6_acceptExpression_220 : decode cX6_acceptExpression 220 = .ok (.aload_n 0, 1) := by decide +kernel
theorem dX6_acceptExpression_221 : decode cX6_acceptExpression 221 = .ok (.getfield 30, 3) := by decide +kernel
theorem dX6_acceptExpression_224 : decode cX6_acceptExpression 224 = .ok (.aload_n 0, 1) := by decide +kernel
theorem dX6_acceptExpression_225 : decode cX6_acceptExpression 225 = .ok (.getfield 37, 3) := by decide +kernel
theorem dX6_acceptExpression_228 : decode cX6_acceptExpression 228 = .ok (.aaload, 1) := by decide +kernel
theorem dX6_acceptExpression_229 : decode cX6_acceptExpression 229 = .ok (.ifnull 16, 3) := by decide +kernel
theorem dX6_acceptExpression_232 : decode cX6_acceptExpression 232 = .ok (.aload_n 0, 1) := by decide +kernel
theorem dX6_acceptExpression_233 : decode cX6_acceptExpression 233 = .ok (.iload_n 1, 1) := by decide +kernel
theorem dX6_acceptExpression_234 : decode cX6_acceptExpression 234 = .ok (.iconst 0, 1) := by decide +kernel
theorem dX6_acceptExpression_235 : decode cX6_acceptExpression 235 = .ok (.invokevirtual 86, 3) := by decide +kernel
theorem dX6_acceptExpression_238 : decode cX6_acceptExpression 238 = .ok (.ifCond .eq 7, 3) := by decide +kernel
theorem dX6_acceptExpression_241 : decode cX6_acceptExpression 241 = .ok (.iconst 1, 1) := by decide +kernel
theorem dX6_acceptExpression_242 : decode cX6_acceptExpression 242 = .ok (.goto 4, 3) := by decide +kernel
theorem dX6_acceptExpression_245 : decode cX6_acceptExpression 245 = .ok (.iconst 0, 1) := by decide +kernel
theorem dX6_acceptExpression_246 : decode cX6_acceptExpression 246 = .ok (.ireturn, 1) := by decide +kernel
theorem dX6_acceptExpression_247 : decode cX6_acceptExpression 247 = .ok (.iconst 0, 1) := by decide +kernel
theorem dX6_acceptExpression_248 : decode cX6_acceptExpression 248 = .ok (.ireturn, 1) := by decide +kernel
theorem dX6_addLeaf_0 : decode cX6_addLeaf 0 = .ok (.aload_n 0, 1) := by decide +kernel
theorem dX6_addLeaf_1 : decode cX6_addLeaf 1 = .ok (.iload_n 1, 1) := by decide +kernel
theorem dX6_addLeaf_2 : decode cX6_addLeaf 2 = .ok (.invokevirtual 89, 3) := by decide +kernel
theorem dX6_addLeaf_5 : decode cX6_addLeaf 5 = .ok (.astore_n 3, 1) := by decide +kernel
theorem dX6_addLeaf_6 : decode cX6_addLeaf 6 = .ok (.aload_n 3, 1) := by decide +kernel
theorem dX6_addLeaf_7 : decode cX6_addLeaf 7 = .ok (.ifnonnull 5, 3) := by decide +kernel
theorem dX6_addLeaf_10 : decode cX6_addLeaf 10 = .ok (.iconst 0, 1) := by decide +kernel
theorem dX6_addLeaf_11 : decode cX6_addLeaf 11 = .ok (.ireturn, 1) := by decide +kernel
theorem dX6_addLeaf_12 : decode cX6_addLeaf 12 = .ok (.aload_n 3, 1) := by decide +kernel
theorem dX6_addLeaf_13 : decode cX6_addLeaf 13 = .ok (.iload_n 2, 1) := by decide +kernel
theorem dX6_addLeaf_14 : decode cX6_addLeaf 14 = .ok (.putfield 63, 3) := by decide +kernel
theorem dX6_addLeaf_17 : decode cX6_addLeaf 17 = .ok (.aload_n 0, 1) := by decide +kernel
theorem dX6_addLeaf_18 : decode cX6_addLeaf 18 = .ok (.invokevirtual 93, 3) := by decide +kernel
theorem dX6_addLeaf_21 : decode cX6_addLeaf 21 = .ok (.iconst 1, 1) := by decide +kernel
theorem dX6_addLeaf_22 : decode cX6_addLeaf 22 = .ok (.ireturn, 1) := by decide +kernel
theorem dX6_beginExpression_0 : decode cX6_beginExpression 0 = .ok (.aload_n 0, 1) := by decide +kernel
theorem dX6_beginExpression_1 : decode cX6_beginExpression 1 = .ok (.getfield 37, 3) := by decide +kernel
theorem dX6_beginExpression_4 : decode cX6_beginExpression 4 = .ok (.iconst 1, 1) := by decide +kernel
theorem dX6_beginExpression_5 : decode cX6_beginExpression 5 = .ok (.iadd, 1) := by decide +kernel
theorem dX6_beginExpression_6 : decode cX6_beginExpression 6 = .ok (.aload_n 0, 1) := by decide +kernel
theorem dX6_beginExpression_7 : decode cX6_beginExpression 7 = .ok (.getfield 17, 3) := by decide +kernel
theorem dX6_beginExpression_10 : decode cX6_beginExpression 10 = .ok (.arraylength, 1) := by decide +kernel
theorem dX6_beginExpression_11 : decode cX6_beginExpression 11 = .ok (.if_icmp .ge 11, 3) := by decide +kernel
theorem dX6_beginExpression_14 : decode cX6_beginExpression 14 = .ok (.aload_n 0, 1) := by decide +kernel
theorem dX6_beginExpression_15 : decode cX6_beginExpression 15 = .ok (.iload_n 1, 1) := by decide +kernel
theorem dX6_beginExpression_16 : decode cX6_beginExpression 16 = .ok (.invokevirtual 89, 3) := by decide +kernel
theorem dX6_beginExpression_19 : decode cX6_beginExpression 19 = .ok (.goto 4, 3) := by decide +kernel
theorem dX6_beginExpression_22 : decode cX6_beginExpression 22 = .ok (.aconst_null, 1) := by decide +kernel
theorem dX6_beginExpression_23 : decode cX6_beginExpression 23 = .ok (.astore_n 3, 1) := by decide +kernel
theorem dX6_beginExpression_24 : decode cX6_beginExpression 24 = .ok (.aload_n 3, 1) := by decide +kernel
theorem dX6_beginExpression_25 : decode cX6_beginExpression 25 = .ok (.ifnonnull 5, 3) := by decide +kernel
theorem dX6_beginExpression_28 : decode cX6_beginExpression 28 = .ok (.iconst 0, 1) := by decide +kernel
theorem dX6_beginExpression_29 : decode cX6_beginExpression 29 = .ok (.ireturn, 1) := by decide +kernel
theorem dX6_beginExpression_30 : decode cX6_beginExpression 30 = .ok (.iload_n 1, 1) := by decide +kernel
theorem dX6_beginExpression_31 : decode cX6_beginExpression 31 = .ok (.bipush 64, 2) := by decide +kernel
theorem dX6_beginExpression_33 : decode cX6_beginExpression 33 = .ok (.if_icmp .ne 16, 3) := by decide +kernel
theorem dX6_beginExpression_36 : decode cX6_beginExpression 36 = .ok (.aload_n 3, 1) := by decide +kernel
theorem dX6_beginExpression_37 : decode cX6_beginExpression 37 = .ok (.aload_n 0, 1) := by decide +kernel
theorem dX6_beginExpression_38 : decode cX6_beginExpression 38 = .ok (.getfield 30, 3) := by decide +kernel
theorem dX6_beginExpression_41 : decode cX6_beginExpression 41 = .ok (.aload_n 0, 1) := by decide +kernel
theorem dX6_beginExpression_42 : decode cX6_beginExpression 42 = .ok (.getfield 37, 3) := by decide +kernel
theorem dX6_beginExpression_45 : decode cX6_beginExpression 45 = .ok (.aaload, 1) := by decide +kernel
theorem dX6_beginExpression_46 : decode cX6_beginExpression 46 = .ok (.putfield 96, 3) := by decide +kernel
theorem dX6_beginExpression_49 : decode cX6_beginExpression 49 = .ok (.aload_n 0, 1) := by decide +kernel
theorem dX6_beginExpression_50 : decode cX6_beginExpression 50 = .ok (.dup, 1) := by decide +kernel
theorem dX6_beginExpression_51 : decode cX6_beginExpression 51 = .ok (.getfield 37, 3) := by decide +kernel
theorem dX6_beginExpression_54 : decode cX6_beginExpression 54 = .ok (.iconst 1, 1) := by decide +kernel
theorem dX6_beginExpression_55 : decode cX6_beginExpression 55 = .ok (.iadd, 1) := by decide +kernel
theorem dX6_beginExpression_56 : decode cX6_beginExpression 56 = .ok (.putfield 37, 3) := by decide +kernel
theorem dX6_beginExpression_59 : decode cX6_beginExpression 59 = .ok (.aload_n 0, 1) := by decide +kernel
theorem dX6_beginExpression_60 : decode cX6_beginExpression 60 = .ok (.getfield 17, 3) := by decide +kernel
theorem dX6_beginExpression_63 : decode cX6_beginExpression 63 = .ok (.aload_n 0, 1) := by decide +kernel
theorem dX6_beginExpression_64 : decode cX6_beginExpression 64 = .ok (.getfield 37, 3) := by decide +kernel
theorem dX6_beginExpression_67 : decode cX6_beginExpression 67 = .ok (.aload_n 3, 1) := by decide +kernel
theorem dX6_beginExpression_68 : decode cX6_beginExpression 68 = .ok (.aastore, 1) := by decide +kernel
theorem dX6_beginExpression_69 : decode cX6_beginExpression 69 = .ok (.aload_n 0, 1) := by decide +kernel
theorem dX6_beginExpression_70 : decode cX6_beginExpression 70 = .ok (.getfield 20, 3) := by decide +kernel
theorem dX6_beginExpression_73 : decode cX6_beginExpression 73 = .ok (.aload_n 0, 1) := by decide +kernel
theorem dX6_beginExpression_74 : decode cX6_beginExpression 74 = .ok (.getfield 37, 3) := by decide +kernel
theorem dX6_beginExpression_77 : decode cX6_beginExpression 77 = .ok (.iconst 0, 1) := by decide +kernel
theorem dX6_beginExpression_78 : decode cX6_beginExpression 78 = .ok (.iastore, 1) := by decide +kernel
theorem dX6_beginExpression_79 : decode cX6_beginExpression 79 = .ok (.aload_n 0, 1) := by decide +kernel
theorem dX6_beginExpression_80 : decode cX6_beginExpression 80 = .ok (.getfield 27, 3) := by decide +kernel
theorem dX6_beginExpression_83 : decode cX6_beginExpression 83 = .ok (.aload_n 0, 1) := by decide +kernel
theorem dX6_beginExpression_84 : decode cX6_beginExpression 84 = .ok (.getfield 37, 3) := by decide +kernel
theorem dX6_beginExpression_87 : decode cX6_beginExpression 87 = .ok (.aload_n 0, 1) := by decide +kernel
theorem dX6_beginExpression_88 : decode cX6_beginExpression 88 = .ok (.getfield 27, 3) := by decide +kernel
theorem dX6_beginExpression_91 : decode cX6_beginExpression 91 = .ok (.aload_n 0, 1) := by decide +kernel
theorem dX6_beginExpression_92 : decode cX6_beginExpression 92 = .ok (.getfield 37, 3) := by decide +kernel
theorem dX6_beginExpression_95 : decode cX6_beginExpression 95 = .ok (.iconst 1, 1) := by decide +kernel
theorem dX6_beginExpression_96 : decode cX6_beginExpression 96 = .ok (.isub, 1) := by decide +kernel
theorem dX6_beginExpression_97 : decode cX6_beginExpression 97 = .ok (.iaload, 1) := by decide +kernel
theorem dX6_beginExpression_98 : decode cX6_beginExpression 98 = .ok (.iastore, 1) := by decide +kernel
theorem dX6_beginExpression_99 : decode cX6_beginExpression 99 = .ok (.aload_n 0, 1) := by decide +kernel
theorem dX6_beginExpression_100 : decode cX6_beginExpression 100 = .ok (.getfield 30, 3) := by decide +kernel
theorem dX6_beginExpression_103 : decode cX6_beginExpression 103 = .ok (.aload_n 0, 1) := by decide +kernel
theorem dX6_beginExpression_104 : decode cX6_beginExpression 104 = .ok (.getfield 37, 3) := by decide +kernel
theorem dX6_beginExpression_107 : decode cX6_beginExpression 107 = .ok (.aload_n 0, 1) := by decide +kernel
theorem dX6_beginExpression_108 : decode cX6_beginExpression 108 = .ok (.getfield 30, 3) := by decide +kernel
theorem dX6_beginExpression_111 : decode cX6_beginExpression 111 = .ok (.aload_n 0, 1) := by decide +kernel
theorem dX6_beginExpression_112 : decode cX6_beginExpression 112 = .ok (.getfield 37, 3) := by decide +kernel
theorem dX6_beginExpression_115 : decode cX6_beginExpression 115 = .ok (.iconst 1, 1) := by decide +kernel
theorem dX6_beginExpression_116 : decode cX6_beginExpression 116 = .ok (.isub, 1) := by decide +kernel
theorem dX6_beginExpression_117 : decode cX6_beginExpression 117 = .ok (.aaload, 1) := by decide +kernel
theorem dX6_beginExpression_118 : decode cX6_beginExpression 118 = .ok (.aastore, 1) := by decide +kernel
theorem dX6_beginExpression_119 : decode cX6_beginExpression 119 = .ok (.aload_n 0, 1) := by decide +kernel
theorem dX6_beginExpression_120 : decode cX6_beginExpression 120 = .ok (.iload_n 2, 1) := by decide +kernel
theorem dX6_beginExpression_121 : decode cX6_beginExpression 121 = .ok (.putfield 43, 3) := by decide +kernel
theorem dX6_beginExpression_124 : decode cX6_beginExpression 124 = .ok (.iconst 1, 1) := by decide +kernel
theorem dX6_beginExpression_125 : decode cX6_beginExpression 125 = .ok (.ireturn, 1) := by decide +kernel
theorem dX6_addExpression_0 : decode cX6_addExpression 0 = .ok (.aload_n 0, 1) := by decide +kernel
theorem dX6_addExpression_1 : decode cX6_addExpression 1 = .ok (.getfield 33, 3) := by decide +kernel
theorem dX6_addExpression_4 : decode cX6_addExpression 4 = .ok (.aload_n 0, 1) := by decide +kernel
theorem dX6_addExpression_5 : decode cX6_addExpression 5 = .ok (.getfield 11, 3) := by decide +kernel
theorem dX6_addExpression_8 : decode cX6_addExpression 8 = .ok (.arraylength, 1) := by decide +kernel
theorem dX6_addExpression_9 : decode cX6_addExpression 9 = .ok (.if_icmp .lt 5, 3) := by decide +kernel
theorem dX6_addExpression_12 : decode cX6_addExpression 12 = .ok (.aconst_null, 1) := by decide +kernel
theorem dX6_addExpression_13 : decode cX6_addExpression 13 = .ok (.areturn, 1) := by decide +kernel
theorem dX6_addExpression_14 : decode cX6_addExpression 14 = .ok (.new 9, 3) := by decide +kernel
theorem dX6_addExpression_17 : decode cX6_addExpression 17 = .ok (.dup, 1) := by decide +kernel
theorem dX6_addExpression_18 : decode cX6_addExpression 18 = .ok (.iload_n 1, 1) := by decide +kernel
theorem dX6_addExpression_19 : decode cX6_addExpression 19 = .ok (.invokespecial 100, 3) := by decide +kernel
theorem dX6_addExpression_22 : decode cX6_addExpression 22 = .ok (.astore_n 2, 1) := by decide +kernel
theorem dX6_addExpression_23 : decode cX6_addExpression 23 = .ok (.aload_n 0, 1) := by decide +kernel
theorem dX6_addExpression_24 : decode cX6_addExpression 24 = .ok (.getfield 11, 3) := by decide +kernel
theorem dX6_addExpression_27 : decode cX6_addExpression 27 = .ok (.aload_n 0, 1) := by decide +kernel
theorem dX6_addExpression_28 : decode cX6_addExpression 28 = .ok (.getfield 33, 3) := by decide +kernel
theorem dX6_addExpression_31 : decode cX6_addExpression 31 = .ok (.aload_n 2, 1) := by decide +kernel
theorem dX6_addExpression_32 : decode cX6_addExpression 32 = .ok (.aastore, 1) := by decide +kernel
theorem dX6_addExpression_33 : decode cX6_addExpression 33 = .ok (.aload_n 0, 1) := by decide +kernel
theorem dX6_addExpression_34 : decode cX6_addExpression 34 = .ok (.dup, 1) := by decide +kernel
theorem dX6_addExpression_35 : decode cX6_addExpression 35 = .ok (.getfield 33, 3) := by decide +kernel
theorem dX6_addExpression_38 : decode cX6_addExpression 38 = .ok (.iconst 1, 1) := by decide +kernel
theorem dX6_addExpression_39 : decode cX6_addExpression 39 = .ok (.iadd, 1) := by decide +kernel
theorem dX6_addExpression_40 : decode cX6_addExpression 40 = .ok (.putfield 33, 3) := by decide +kernel
theorem dX6_addExpression_43 : decode cX6_addExpression 43 = .ok (.aload_n 0, 1) := by decide +kernel
theorem dX6_addExpression_44 : decode cX6_addExpression 44 = .ok (.getfield 37, 3) := by decide +kernel
theorem dX6_addExpression_47 : decode cX6_addExpression 47 = .ok (.ifCond .le 17, 3) := by decide +kernel
theorem dX6_addExpression_50 : decode cX6_addExpression 50 = .ok (.aload_n 0, 1) := by decide +kernel
theorem dX6_addExpression_51 : decode cX6_addExpression 51 = .ok (.aload_n 0, 1) := by decide +kernel
theorem dX6_addExpression_52 : decode cX6_addExpression 52 = .ok (.getfield 17, 3) := by decide +kernel
theorem dX6_addExpression_55 : decode cX6_addExpression 55 = .ok (.aload_n 0, 1) := by decide +kernel
theorem dX6_addExpression_56 : decode cX6_addExpression 56 = .ok (.getfield 37, 3) := by decide +kernel
theorem dX6_addExpression_59 : decode cX6_addExpression 59 = .ok (.aaload, 1) := by decide +kernel
theorem dX6_addExpression_60 : decode cX6_addExpression 60 = .ok (.aload_n 2, 1) := by decide +kernel
theorem dX6_addExpression_61 : decode cX6_addExpression 61 = .ok (.invokevirtual 102, 3) := by decide +kernel
theorem dX6_addExpression_64 : decode cX6_addExpression 64 = .ok (.aload_n 2, 1) := by decide +kernel
theorem dX6_addExpression_65 : decode cX6_addExpression 65 = .ok (.areturn, 1) := by decide +kernel
theorem dX6_attach_0 : decode cX6_attach 0 = .ok (.aload_n 0, 1) := by decide +kernel
theorem dX6_attach_1 : decode cX6_attach 1 = .ok (.getfield 20, 3) := by decide +kernel
theorem dX6_attach_4 : decode cX6_attach 4 = .ok (.aload_n 0, 1) := by decide +kernel
theorem dX6_attach_5 : decode cX6_attach 5 = .ok (.getfield 37, 3) := by decide +kernel
theorem dX6_attach_8 : decode cX6_attach 8 = .ok (.iaload, 1) := by decide +kernel
theorem dX6_attach_9 : decode cX6_attach 9 = .ok (.lookupswitch 68 #[(0, 27), (1, 35)], 27) := by decide +kernel
theorem dX6_attach_36 : decode cX6_attach 36 = .ok (.aload_n 1, 1) := by decide +kernel
theorem dX6_attach_37 : decode cX6_attach 37 = .ok (.aload_n 2, 1) := by decide +kernel
theorem dX6_attach_38 : decode cX6_attach 38 = .ok (.putfield 106, 3) := by decide +kernel
theorem dX6_attach_41 : decode cX6_attach 41 = .ok (.goto 41, 3) := by decide +kernel
theorem dX6_attach_44 : decode cX6_attach 44 = .ok (.aload_n 1, 1) := by decide +kernel
theorem dX6_attach_45 : decode cX6_attach 45 = .ok (.getfield 109, 3) := by decide +kernel
theorem dX6_attach_48 : decode cX6_attach 48 = .ok (.ifnonnull 11, 3) := by decide +kernel
theorem dX6_attach_51 : decode cX6_attach 51 = .ok (.aload_n 1, 1) := by decide +kernel
theorem dX6_attach_52 : decode cX6_attach 52 = .ok (.aload_n 2, 1) := by decide +kernel
theorem dX6_attach_53 : decode cX6_attach 53 = .ok (.putfield 112, 3) := by decide +kernel
theorem dX6_attach_56 : decode cX6_attach 56 = .ok (.goto 26, 3) := by decide +kernel
theorem dX6_attach_59 : decode cX6_attach 59 = .ok (.aload_n 1, 1) := by decide +kernel
theorem dX6_attach_60 : decode cX6_attach 60 = .ok (.getfield 109, 3) := by decide +kernel
theorem dX6_attach_63 : decode cX6_attach 63 = .ok (.aload_n 0, 1) := by decide +kernel
theorem dX6_attach_64 : decode cX6_attach 64 = .ok (.getfield 24, 3) := by decide +kernel
theorem dX6_attach_67 : decode cX6_attach 67 = .ok (.aload_n 0, 1) := by decide +kernel
theorem dX6_attach_68 : decode cX6_attach 68 = .ok (.getfield 37, 3) := by decide +kernel
theorem dX6_attach_71 : decode cX6_attach 71 = .ok (.iaload, 1) := by decide +kernel
theorem dX6_attach_72 : decode cX6_attach 72 = .ok (.aload_n 2, 1) := by decide +kernel
theorem dX6_attach_73 : decode cX6_attach 73 = .ok (.aastore, 1) := by decide +kernel
theorem dX6_attach_74 : decode cX6_attach 74 = .ok (.goto 8, 3) := by decide +kernel
theorem dX6_attach_77 : decode cX6_attach 77 = .ok (.aload_n 1, 1) := by decide +kernel
theorem dX6_attach_78 : decode cX6_attach 78 = .ok (.aload_n 2, 1) := by decide +kernel
theorem dX6_attach_79 : decode cX6_attach 79 = .ok (.putfield 115, 3) := by decide +kernel
theorem dX6_attach_82 : decode cX6_attach 82 = .ok (.return_, 1) := by decide +kernel
theorem dX6_endPart_0 : decode cX6_endPart 0 = .ok (.aload_n 0, 1) := by decide +kernel
theorem dX6_endPart_1 : decode cX6_endPart 1 = .ok (.getfield 37, 3) := by decide +kernel
theorem dX6_endPart_4 : decode cX6_endPart 4 = .ok (.ifCond .le 122, 3) := by decide +kernel
theorem dX6_endPart_7 : decode cX6_endPart 7 = .ok (.aload_n 0, 1) := by decide +kernel
theorem dX6_endPart_8 : decode cX6_endPart 8 = .ok (.getfield 17, 3) := by decide +kernel
theorem dX6_endPart_11 : decode cX6_endPart 11 = .ok (.aload_n 0, 1) := by decide +kernel
theorem dX6_endPart_12 : decode cX6_endPart 12 = .ok (.getfield 37, 3) := by decide +kernel
theorem dX6_endPart_15 : decode cX6_endPart 15 = .ok (.aaload, 1) := by decide +kernel
theorem dX6_endPart_16 : decode cX6_endPart 16 = .ok (.astore_n 1, 1) := by decide +kernel
theorem dX6_endPart_17 : decode cX6_endPart 17 = .ok (.aload_n 1, 1) := by decide +kernel
theorem dX6_endPart_18 : decode cX6_endPart 18 = .ok (.getfield 118, 3) := by decide +kernel
theorem dX6_endPart_21 : decode cX6_endPart 21 = .ok (.bipush 123, 2) := by decide +kernel
theorem dX6_endPart_23 : decode cX6_endPart 23 = .ok (.if_icmp .ne 19, 3) := by decide +kernel
theorem dX6_endPart_26 : decode cX6_endPart 26 = .ok (.aload_n 0, 1) := by decide +kernel
theorem dX6_endPart_27 : decode cX6_endPart 27 = .ok (.getfield 20, 3) := by decide +kernel
theorem dX6_endPart_30 : decode cX6_endPart 30 = .ok (.aload_n 0, 1) := by decide +kernel
theorem dX6_endPart_31 : decode cX6_endPart 31 = .ok (.getfield 37, 3) := by decide +kernel
theorem dX6_endPart_34 : decode cX6_endPart 34 = .ok (.iconst 1, 1) := by decide +kernel
theorem dX6_endPart_35 : decode cX6_endPart 35 = .ok (.iastore, 1) := by decide +kernel
theorem dX6_endPart_36 : decode cX6_endPart 36 = .ok (.aload_n 0, 1) := by decide +kernel
theorem dX6_endPart_37 : decode cX6_endPart 37 = .ok (.iconst 4, 1) := by decide +kernel
theorem dX6_endPart_38 : decode cX6_endPart 38 = .ok (.putfield 43, 3) := by decide +kernel
theorem dX6_endPart_41 : decode cX6_endPart 41 = .ok (.return_, 1) := by decide +kernel
theorem dX6_endPart_42 : decode cX6_endPart 42 = .ok (.aload_n 0, 1) := by decide +kernel
theorem dX6_endPart_43 : decode cX6_endPart 43 = .ok (.getfield 20, 3) := by decide +kernel
theorem dX6_endPart_46 : decode cX6_endPart 46 = .ok (.aload_n 0, 1) := by decide +kernel
theorem dX6_endPart_47 : decode cX6_endPart 47 = .ok (.getfield 37, 3) := by decide +kernel
theorem dX6_endPart_50 : decode cX6_endPart 50 = .ok (.dup2, 1) := by decide +kernel
theorem dX6_endPart_51 : decode cX6_endPart 51 = .ok (.iaload, 1) := by decide +kernel
theorem dX6_endPart_52 : decode cX6_endPart 52 = .ok (.iconst 1, 1) := by decide +kernel
theorem dX6_endPart_53 : decode cX6_endPart 53 = .ok (.iadd, 1) := by decide +kernel
theorem dX6_endPart_54 : decode cX6_endPart 54 = .ok (.iastore, 1) := by decide +kernel
theorem dX6_endPart_55 : decode cX6_endPart 55 = .ok (.aload_n 0, 1) := by decide +kernel
theorem dX6_endPart_56 : decode cX6_endPart 56 = .ok (.getfield 20, 3) := by decide +kernel
theorem dX6_endPart_59 : decode cX6_endPart 59 = .ok (.aload_n 0, 1) := by decide +kernel
theorem dX6_endPart_60 : decode cX6_endPart 60 = .ok (.getfield 37, 3) := by decide +kernel
theorem dX6_endPart_63 : decode cX6_endPart 63 = .ok (.iaload, 1) := by decide +kernel
theorem dX6_endPart_64 : decode cX6_endPart 64 = .ok (.aload_n 1, 1) := by decide +kernel
theorem dX6_endPart_65 : decode cX6_endPart 65 = .ok (.invokevirtual 121, 3) := by decide +kernel
theorem dX6_endPart_68 : decode cX6_endPart 68 = .ok (.if_icmp .ge 45, 3) := by decide +kernel
theorem dX6_endPart_71 : decode cX6_endPart 71 = .ok (.aload_n 1, 1) := by decide +kernel
theorem dX6_endPart_72 : decode cX6_endPart 72 = .ok (.getfield 118, 3) := by decide +kernel
theorem dX6_endPart_75 : decode cX6_endPart 75 = .ok (.bipush 61, 2) := by decide +kernel
theorem dX6_endPart_77 : decode cX6_endPart 77 = .ok (.if_icmp .ne 30, 3) := by decide +kernel
theorem dX6_endPart_80 : decode cX6_endPart 80 = .ok (.aload_n 0, 1) := by decide +kernel
theorem dX6_endPart_81 : decode cX6_endPart 81 = .ok (.getfield 27, 3) := by decide +kernel
theorem dX6_endPart_84 : decode cX6_endPart 84 = .ok (.aload_n 0, 1) := by decide +kernel
theorem dX6_endPart_85 : decode cX6_endPart 85 = .ok (.getfield 37, 3) := by decide +kernel
theorem dX6_endPart_88 : decode cX6_endPart 88 = .ok (.aload_n 0, 1) := by decide +kernel
theorem dX6_endPart_89 : decode cX6_endPart 89 = .ok (.getfield 27, 3) := by decide +kernel
theorem dX6_endPart_92 : decode cX6_endPart 92 = .ok (.aload_n 0, 1) := by decide +kernel
theorem dX6_endPart_93 : decode cX6_endPart 93 = .ok (.getfield 37, 3) := by decide +kernel
theorem dX6_endPart_96 : decode cX6_endPart 96 = .ok (.iconst 1, 1) := by decide +kernel
theorem dX6_endPart_97 : decode cX6_endPart 97 = .ok (.isub, 1) := by decide +kernel
theorem dX6_endPart_98 : decode cX6_endPart 98 = .ok (.iaload, 1) := by decide +kernel
theorem dX6_endPart_99 : decode cX6_endPart 99 = .ok (.iconst 1, 1) := by decide +kernel
theorem dX6_endPart_100 : decode cX6_endPart 100 = .ok (.aload_n 1, 1) := by decide +kernel
theorem dX6_endPart_101 : decode cX6_endPart 101 = .ok (.getfield 63, 3) := by decide +kernel
theorem dX6_endPart_104 : decode cX6_endPart 104 = .ok (.ishl, 1) := by decide +kernel
theorem dX6_endPart_105 : decode cX6_endPart 105 = .ok (.ior, 1) := by decide +kernel
theorem dX6_endPart_106 : decode cX6_endPart 106 = .ok (.iastore, 1) := by decide +kernel
theorem dX6_endPart_107 : decode cX6_endPart 107 = .ok (.aload_n 0, 1) := by decide +kernel
theorem dX6_endPart_108 : decode cX6_endPart 108 = .ok (.iconst 0, 1) := by decide +kernel
theorem dX6_endPart_109 : decode cX6_endPart 109 = .ok (.putfield 43, 3) := by decide +kernel
theorem dX6_endPart_112 : decode cX6_endPart 112 = .ok (.return_, 1) := by decide +kernel
theorem dX6_endPart_113 : decode cX6_endPart 113 = .ok (.aload_n 0, 1) := by decide +kernel
theorem dX6_endPart_114 : decode cX6_endPart 114 = .ok (.dup, 1) := by decide +kernel
theorem dX6_endPart_115 : decode cX6_endPart 115 = .ok (.getfield 37, 3) := by decide +kernel
theorem dX6_endPart_118 : decode cX6_endPart 118 = .ok (.iconst 1, 1) := by decide +kernel
theorem dX6_endPart_119 : decode cX6_endPart 119 = .ok (.isub, 1) := by decide +kernel
theorem dX6_endPart_120 : decode cX6_endPart 120 = .ok (.putfield 37, 3) := by decide +kernel
theorem dX6_endPart_123 : decode cX6_endPart 123 = .ok (.goto (-123), 3) := by decide +kernel
theorem dX6_endPart_126 : decode cX6_endPart 126 = .ok (.aload_n 0, 1) := by decide +kernel
theorem dX6_endPart_127 : decode cX6_endPart 127 = .ok (.iconst 5, 1) := by decide +kernel
theorem dX6_endPart_128 : decode cX6_endPart 128 = .ok (.putfield 43, 3) := by decide +kernel
theorem dX6_endPart_131 : decode cX6_endPart 131 = .ok (.return_, 1) := by decide +kernel
theorem dX6_acceptVariable_0 : decode cX6_acceptVariable 0 = .ok (.iload_n 1, 1) := by decide +kernel
theorem dX6_acceptVariable_1 : decode cX6_acceptVariable 1 = .ok (.invokestatic 83, 3) := by decide +kernel
theorem dX6_acceptVariable_4 : decode cX6_acceptVariable 4 = .ok (.ifCond .eq 11, 3) := by decide +kernel
theorem dX6_acceptVariable_7 : decode cX6_acceptVariable 7 = .ok (.aload_n 0, 1) := by decide +kernel
theorem dX6_acceptVariable_8 : decode cX6_acceptVariable 8 = .ok (.getfield 37, 3) := by decide +kernel
theorem dX6_acceptVariable_11 : decode cX6_acceptVariable 11 = .ok (.iconst 1, 1) := by decide +kernel
theorem dX6_acceptVariable_12 : decode cX6_acceptVariable 12 = .ok (.if_icmp .ge 5, 3) := by decide +kernel
theorem dX6_acceptVariable_15 : decode cX6_acceptVariable 15 = .ok (.iconst 0, 1) := by decide +kernel
theorem dX6_acceptVariable_16 : decode cX6_acceptVariable 16 = .ok (.ireturn, 1) := by decide +kernel
theorem dX6_acceptVariable_17 : decode cX6_acceptVariable 17 = .ok (.iload_n 1, 1) := by decide +kernel
theorem dX6_acceptVariable_18 : decode cX6_acceptVariable 18 = .ok (.bipush 97, 2) := by decide +kernel
theorem dX6_acceptVariable_20 : decode cX6_acceptVariable 20 = .ok (.isub, 1) := by decide +kernel
theorem dX6_acceptVariable_21 : decode cX6_acceptVariable 21 = .ok (.istore_n 2, 1) := by decide +kernel
theorem dX6_acceptVariable_22 : decode cX6_acceptVariable 22 = .ok (.aload_n 0, 1) := by decide +kernel
theorem dX6_acceptVariable_23 : decode cX6_acceptVariable 23 = .ok (.getfield 17, 3) := by decide +kernel
theorem dX6_acceptVariable_26 : decode cX6_acceptVariable 26 = .ok (.aload_n 0, 1) := by decide +kernel
theorem dX6_acceptVariable_27 : decode cX6_acceptVariable 27 = .ok (.getfield 37, 3) := by decide +kernel
theorem dX6_acceptVariable_30 : decode cX6_acceptVariable 30 = .ok (.aaload, 1) := by decide +kernel
theorem dX6_acceptVariable_31 : decode cX6_acceptVariable 31 = .ok (.astore_n 3, 1) := by decide +kernel
theorem dX6_acceptVariable_32 : decode cX6_acceptVariable 32 = .ok (.aload_n 3, 1) := by decide +kernel
theorem dX6_acceptVariable_33 : decode cX6_acceptVariable 33 = .ok (.getfield 125, 3) := by decide +kernel
theorem dX6_acceptVariable_36 : decode cX6_acceptVariable 36 = .ok (.ifnonnull 11, 3) := by decide +kernel
theorem dX6_acceptVariable_39 : decode cX6_acceptVariable 39 = .ok (.aload_n 3, 1) := by decide +kernel
theorem dX6_acceptVariable_40 : decode cX6_acceptVariable 40 = .ok (.iload_n 2, 1) := by decide +kernel
theorem dX6_acceptVariable_41 : decode cX6_acceptVariable 41 = .ok (.putfield 63, 3) := by decide +kernel
theorem dX6_acceptVariable_44 : decode cX6_acceptVariable 44 = .ok (.goto 42, 3) := by decide +kernel
theorem dX6_acceptVariable_47 : decode cX6_acceptVariable 47 = .ok (.aload_n 3, 1) := by decide +kernel
theorem dX6_acceptVariable_48 : decode cX6_acceptVariable 48 = .ok (.getfield 125, 3) := by decide +kernel
theorem dX6_acceptVariable_51 : decode cX6_acceptVariable 51 = .ok (.aload_n 0, 1) := by decide +kernel
theorem dX6_acceptVariable_52 : decode cX6_acceptVariable 52 = .ok (.getfield 24, 3) := by decide +kernel
theorem dX6_acceptVariable_55 : decode cX6_acceptVariable 55 = .ok (.aload_n 0, 1) := by decide +kernel
theorem dX6_acceptVariable_56 : decode cX6_acceptVariable 56 = .ok (.getfield 37, 3) := by decide +kernel
theorem dX6_acceptVariable_59 : decode cX6_acceptVariable 59 = .ok (.iaload, 1) := by decide +kernel
theorem dX6_acceptVariable_60 : decode cX6_acceptVariable 60 = .ok (.iload_n 2, 1) := by decide +kernel
theorem dX6_acceptVariable_61 : decode cX6_acceptVariable 61 = .ok (.iastore, 1) := by decide +kernel
theorem dX6_acceptVariable_62 : decode cX6_acceptVariable 62 = .ok (.aload_n 0, 1) := by decide +kernel
theorem dX6_acceptVariable_63 : decode cX6_acceptVariable 63 = .ok (.getfield 27, 3) := by decide +kernel
theorem dX6_acceptVariable_66 : decode cX6_acceptVariable 66 = .ok (.aload_n 0, 1) := by decide +kernel
theorem dX6_acceptVariable_67 : decode cX6_acceptVariable 67 = .ok (.getfield 37, 3) := by decide +kernel
theorem dX6_acceptVariable_70 : decode cX6_acceptVariable 70 = .ok (.aload_n 0, 1) := by decide +kernel
theorem dX6_acceptVariable_71 : decode cX6_acceptVariable 71 = .ok (.getfield 27, 3) := by decide +kernel
theorem dX6_acceptVariable_74 : decode cX6_acceptVariable 74 = .ok (.aload_n 0, 1) := by decide +kernel
theorem dX6_acceptVariable_75 : decode cX6_acceptVariable 75 = .ok (.getfield 37, 3) := by decide +kernel
theorem dX6_acceptVariable_78 : decode cX6_acceptVariable 78 = .ok (.iconst 1, 1) := by decide +kernel
theorem dX6_acceptVariable_79 : decode cX6_acceptVariable 79 = .ok (.isub, 1) := by decide +kernel
theorem dX6_acceptVariable_80 : decode cX6_acceptVariable 80 = .ok (.iaload, 1) := by decide +kernel
theorem dX6_acceptVariable_81 : decode cX6_acceptVariable 81 = .ok (.iconst 1, 1) := by decide +kernel
theorem dX6_acceptVariable_82 : decode cX6_acceptVariable 82 = .ok (.iload_n 2, 1) := by decide +kernel
theorem dX6_acceptVariable_83 : decode cX6_acceptVariable 83 = .ok (.ishl, 1) := by decide +kernel
theorem dX6_acceptVariable_84 : decode cX6_acceptVariable 84 = .ok (.ior, 1) := by decide +kernel
theorem dX6_acceptVariable_85 : decode cX6_acceptVariable 85 = .ok (.iastore, 1) := by decide +kernel
theorem dX6_acceptVariable_86 : decode cX6_acceptVariable 86 = .ok (.aload_n 0, 1) := by decide +kernel
theorem dX6_acceptVariable_87 : decode cX6_acceptVariable 87 = .ok (.iconst 0, 1) := by decide +kernel
theorem dX6_acceptVariable_88 : decode cX6_acceptVariable 88 = .ok (.putfield 43, 3) := by decide +kernel
theorem dX6_acceptVariable_91 : decode cX6_acceptVariable 91 = .ok (.iconst 1, 1) := by decide +kernel
theorem dX6_acceptVariable_92 : decode cX6_acceptVariable 92 = .ok (.ireturn, 1) := by decide +kernel
theorem dX6_acceptMark_0 : decode cX6_acceptMark 0 = .ok (.iload_n 1, 1) := by decide +kernel
theorem dX6_acceptMark_1 : decode cX6_acceptMark 1 = .ok (.iload_n 2, 1) := by decide +kernel
theorem dX6_acceptMark_2 : decode cX6_acceptMark 2 = .ok (.if_icmp .lt 18, 3) := by decide +kernel
theorem dX6_acceptMark_5 : decode cX6_acceptMark 5 = .ok (.iload_n 1, 1) := by decide +kernel
theorem dX6_acceptMark_6 : decode cX6_acceptMark 6 = .ok (.iload_n 2, 1) := by decide +kernel
theorem dX6_acceptMark_7 : decode cX6_acceptMark 7 = .ok (.iload_n 3, 1) := by decide +kernel
theorem dX6_acceptMark_8 : decode cX6_acceptMark 8 = .ok (.iadd, 1) := by decide +kernel
theorem dX6_acceptMark_9 : decode cX6_acceptMark 9 = .ok (.if_icmp .ge 11, 3) := by decide +kernel
theorem dX6_acceptMark_12 : decode cX6_acceptMark 12 = .ok (.aload_n 0, 1) := by decide +kernel
theorem dX6_acceptMark_13 : decode cX6_acceptMark 13 = .ok (.getfield 37, 3) := by decide +kernel
theorem dX6_acceptMark_16 : decode cX6_acceptMark 16 = .ok (.iconst 1, 1) := by decide +kernel
theorem dX6_acceptMark_17 : decode cX6_acceptMark 17 = .ok (.if_icmp .ge 5, 3) := by decide +kernel
theorem dX6_acceptMark_20 : decode cX6_acceptMark 20 = .ok (.iconst 0, 1) := by decide +kernel
theorem dX6_acceptMark_21 : decode cX6_acceptMark 21 = .ok (.ireturn, 1) := by decide +kernel
theorem dX6_acceptMark_22 : decode cX6_acceptMark 22 = .ok (.aload_n 0, 1) := by decide +kernel
theorem dX6_acceptMark_23 : decode cX6_acceptMark 23 = .ok (.getfield 17, 3) := by decide +kernel
theorem dX6_acceptMark_26 : decode cX6_acceptMark 26 = .ok (.aload_n 0, 1) := by decide +kernel
theorem dX6_acceptMark_27 : decode cX6_acceptMark 27 = .ok (.getfield 37, 3) := by decide +kernel
theorem dX6_acceptMark_30 : decode cX6_acceptMark 30 = .ok (.aaload, 1) := by decide +kernel
theorem dX6_acceptMark_31 : decode cX6_acceptMark 31 = .ok (.iload_n 1, 1) := by decide +kernel
theorem dX6_acceptMark_32 : decode cX6_acceptMark 32 = .ok (.iload_n 2, 1) := by decide +kernel
theorem dX6_acceptMark_33 : decode cX6_acceptMark 33 = .ok (.isub, 1) := by decide +kernel
theorem dX6_acceptMark_34 : decode cX6_acceptMark 34 = .ok (.putfield 63, 3) := by decide +kernel
theorem dX6_acceptMark_37 : decode cX6_acceptMark 37 = .ok (.aload_n 0, 1) := by decide +kernel
theorem dX6_acceptMark_38 : decode cX6_acceptMark 38 = .ok (.iconst 0, 1) := by decide +kernel
theorem dX6_acceptMark_39 : decode cX6_acceptMark 39 = .ok (.putfield 43, 3) := by decide +kernel
theorem dX6_acceptMark_42 : decode cX6_acceptMark 42 = .ok (.iconst 1, 1) := by decide +kernel
theorem dX6_acceptMark_43 : decode cX6_acceptMark 43 = .ok (.ireturn, 1) := by decide +kernel
theorem dX6_acceptClause_0 : decode cX6_acceptClause 0 = .ok (.aload_n 0, 1) := by decide +kernel
theorem dX6_acceptClause_1 : decode cX6_acceptClause 1 = .ok (.getfield 37, 3) := by decide +kernel
theorem dX6_acceptClause_4 : decode cX6_acceptClause 4 = .ok (.iconst 1, 1) := by decide +kernel
theorem dX6_acceptClause_5 : decode cX6_acceptClause 5 = .ok (.if_icmp .ge 5, 3) := by decide +kernel
theorem dX6_acceptClause_8 : decode cX6_acceptClause 8 = .ok (.iconst 0, 1) := by decide +kernel
theorem dX6_acceptClause_9 : decode cX6_acceptClause 9 = .ok (.ireturn, 1) := by decide +kernel
theorem dX6_acceptClause_10 : decode cX6_acceptClause 10 = .ok (.iload_n 1, 1) := by decide +kernel
theorem dX6_acceptClause_11 : decode cX6_acceptClause 11 = .ok (.bipush 125, 2) := by decide +kernel
theorem dX6_acceptClause_13 : decode cX6_acceptClause 13 = .ok (.if_icmp .ne 19, 3) := by decide +kernel
theorem dX6_acceptClause_16 : decode cX6_acceptClause 16 = .ok (.aload_n 0, 1) := by decide +kernel
theorem dX6_acceptClause_17 : decode cX6_acceptClause 17 = .ok (.dup, 1) := by decide +kernel
theorem dX6_acceptClause_18 : decode cX6_acceptClause 18 = .ok (.getfield 37, 3) := by decide +kernel
theorem dX6_acceptClause_21 : decode cX6_acceptClause 21 = .ok (.iconst 1, 1) := by decide +kernel
theorem dX6_acceptClause_22 : decode cX6_acceptClause 22 = .ok (.isub, 1) := by decide +kernel
theorem dX6_acceptClause_23 : decode cX6_acceptClause 23 = .ok (.putfield 37, 3) := by decide +kernel
theorem dX6_acceptClause_26 : decode cX6_acceptClause 26 = .ok (.aload_n 0, 1) := by decide +kernel
theorem dX6_acceptClause_27 : decode cX6_acceptClause 27 = .ok (.invokevirtual 93, 3) := by decide +kernel
theorem dX6_acceptClause_30 : decode cX6_acceptClause 30 = .ok (.iconst 1, 1) := by decide +kernel
theorem dX6_acceptClause_31 : decode cX6_acceptClause 31 = .ok (.ireturn, 1) := by decide +kernel
theorem dX6_acceptClause_32 : decode cX6_acceptClause 32 = .ok (.iload_n 1, 1) := by decide +kernel
theorem dX6_acceptClause_33 : decode cX6_acceptClause 33 = .ok (.bipush 58, 2) := by decide +kernel
theorem dX6_acceptClause_35 : decode cX6_acceptClause 35 = .ok (.if_icmp .ne 8, 3) := by decide +kernel
theorem dX6_acceptClause_38 : decode cX6_acceptClause 38 = .ok (.bipush 6, 2) := by decide +kernel
theorem dX6_acceptClause_40 : decode cX6_acceptClause 40 = .ok (.goto 7, 3) := by decide +kernel
theorem dX6_acceptClause_43 : decode cX6_acceptClause 43 = .ok (.iload_n 1, 1) := by decide +kernel
theorem dX6_acceptClause_44 : decode cX6_acceptClause 44 = .ok (.bipush 65, 2) := by decide +kernel
theorem dX6_acceptClause_46 : decode cX6_acceptClause 46 = .ok (.isub, 1) := by decide +kernel
theorem dX6_acceptClause_47 : decode cX6_acceptClause 47 = .ok (.istore_n 2, 1) := by decide +kernel
theorem dX6_acceptClause_48 : decode cX6_acceptClause 48 = .ok (.iload_n 1, 1) := by decide +kernel
theorem dX6_acceptClause_49 : decode cX6_acceptClause 49 = .ok (.bipush 58, 2) := by decide +kernel
theorem dX6_acceptClause_51 : decode cX6_acceptClause 51 = .ok (.if_icmp .eq 10, 3) := by decide +kernel
theorem dX6_acceptClause_54 : decode cX6_acceptClause 54 = .ok (.iload_n 2, 1) := by decide +kernel
theorem dX6_acceptClause_55 : decode cX6_acceptClause 55 = .ok (.invokestatic 128, 3) := by decide +kernel
theorem dX6_acceptClause_58 : decode cX6_acceptClause 58 = .ok (.ifCond .eq 19, 3) := by decide +kernel
theorem dX6_acceptClause_61 : decode cX6_acceptClause 61 = .ok (.aload_n 0, 1) := by decide +kernel
theorem dX6_acceptClause_62 : decode cX6_acceptClause 62 = .ok (.getfield 17, 3) := by decide +kernel
theorem dX6_acceptClause_65 : decode cX6_acceptClause 65 = .ok (.aload_n 0, 1) := by decide +kernel
theorem dX6_acceptClause_66 : decode cX6_acceptClause 66 = .ok (.getfield 37, 3) := by decide +kernel
theorem dX6_acceptClause_69 : decode cX6_acceptClause 69 = .ok (.aaload, 1) := by decide +kernel
theorem dX6_acceptClause_70 : decode cX6_acceptClause 70 = .ok (.iload_n 2, 1) := by decide +kernel
theorem dX6_acceptClause_71 : decode cX6_acceptClause 71 = .ok (.invokevirtual 131, 3) := by decide +kernel
theorem dX6_acceptClause_74 : decode cX6_acceptClause 74 = .ok (.ifnull 5, 3) := by decide +kernel
theorem dX6_acceptClause_77 : decode cX6_acceptClause 77 = .ok (.iconst 0, 1) := by decide +kernel
theorem dX6_acceptClause_78 : decode cX6_acceptClause 78 = .ok (.ireturn, 1) := by decide +kernel
theorem dX6_acceptClause_79 : decode cX6_acceptClause 79 = .ok (.aload_n 0, 1) := by decide +kernel
theorem dX6_acceptClause_80 : decode cX6_acceptClause 80 = .ok (.getfield 24, 3) := by decide +kernel
theorem dX6_acceptClause_83 : decode cX6_acceptClause 83 = .ok (.aload_n 0, 1) := by decide +kernel
theorem dX6_acceptClause_84 : decode cX6_acceptClause 84 = .ok (.getfield 37, 3) := by decide +kernel
theorem dX6_acceptClause_87 : decode cX6_acceptClause 87 = .ok (.iload_n 2, 1) := by decide +kernel
theorem dX6_acceptClause_88 : decode cX6_acceptClause 88 = .ok (.iastore, 1) := by decide +kernel
theorem dX6_acceptClause_89 : decode cX6_acceptClause 89 = .ok (.aload_n 0, 1) := by decide +kernel
theorem dX6_acceptClause_90 : decode cX6_acceptClause 90 = .ok (.getfield 30, 3) := by decide +kernel
theorem dX6_acceptClause_93 : decode cX6_acceptClause 93 = .ok (.aload_n 0, 1) := by decide +kernel
theorem dX6_acceptClause_94 : decode cX6_acceptClause 94 = .ok (.getfield 37, 3) := by decide +kernel
theorem dX6_acceptClause_97 : decode cX6_acceptClause 97 = .ok (.iload_n 2, 1) := by decide +kernel
theorem dX6_acceptClause_98 : decode cX6_acceptClause 98 = .ok (.bipush 6, 2) := by decide +kernel
theorem dX6_acceptClause_100 : decode cX6_acceptClause 100 = .ok (.if_icmp .ne 17, 3) := by decide +kernel
theorem dX6_acceptClause_103 : decode cX6_acceptClause 103 = .ok (.aload_n 0, 1) := by decide +kernel
theorem dX6_acceptClause_104 : decode cX6_acceptClause 104 = .ok (.getfield 30, 3) := by decide +kernel
theorem dX6_acceptClause_107 : decode cX6_acceptClause 107 = .ok (.aload_n 0, 1) := by decide +kernel
theorem dX6_acceptClause_108 : decode cX6_acceptClause 108 = .ok (.getfield 37, 3) := by decide +kernel
theorem dX6_acceptClause_111 : decode cX6_acceptClause 111 = .ok (.iconst 1, 1) := by decide +kernel
theorem dX6_acceptClause_112 : decode cX6_acceptClause 112 = .ok (.isub, 1) := by decide +kernel
theorem dX6_acceptClause_113 : decode cX6_acceptClause 113 = .ok (.aaload, 1) := by decide +kernel
theorem dX6_acceptClause_114 : decode cX6_acceptClause 114 = .ok (.goto 12, 3) := by decide +kernel
theorem dX6_acceptClause_117 : decode cX6_acceptClause 117 = .ok (.aload_n 0, 1) := by decide +kernel
theorem dX6_acceptClause_118 : decode cX6_acceptClause 118 = .ok (.getfield 17, 3) := by decide +kernel
theorem dX6_acceptClause_121 : decode cX6_acceptClause 121 = .ok (.aload_n 0, 1) := by decide +kernel
theorem dX6_acceptClause_122 : decode cX6_acceptClause 122 = .ok (.getfield 37, 3) := by decide +kernel
theorem dX6_acceptClause_125 : decode cX6_acceptClause 125 = .ok (.aaload, 1) := by decide +kernel
theorem dX6_acceptClause_126 : decode cX6_acceptClause 126 = .ok (.aastore, 1) := by decide +kernel
theorem dX6_acceptClause_127 : decode cX6_acceptClause 127 = .ok (.aload_n 0, 1) := by decide +kernel
theorem dX6_acceptClause_128 : decode cX6_acceptClause 128 = .ok (.iconst 1, 1) := by decide +kernel
theorem dX6_acceptClause_129 : decode cX6_acceptClause 129 = .ok (.putfield 43, 3) := by decide +kernel
theorem dX6_acceptClause_132 : decode cX6_acceptClause 132 = .ok (.iconst 1, 1) := by decide +kernel
theorem dX6_acceptClause_133 : decode cX6_acceptClause 133 = .ok (.ireturn, 1) := by decide +kernel
theorem dX7_init_0 : decode cX7_init 0 = .ok (.aload_n 0, 1) := by decide +kernel
theorem dX7_init_1 : decode cX7_init 1 = .ok (.invokespecial 1, 3) := by decide +kernel
theorem dX7_init_4 : decode cX7_init 4 = .ok (.aload_n 0, 1) := by decide +kernel
theorem dX7_init_5 : decode cX7_init 5 = .ok (.iload_n 1, 1) := by decide +kernel
theorem dX7_init_6 : decode cX7_init 6 = .ok (.putfield 7, 3) := by decide +kernel
theorem dX7_init_9 : decode cX7_init 9 = .ok (.aload_n 0, 1) := by decide +kernel
theorem dX7_init_10 : decode cX7_init 10 = .ok (.aload_n 2, 1) := by decide +kernel
theorem dX7_init_11 : decode cX7_init 11 = .ok (.putfield 13, 3) := by decide +kernel
theorem dX7_init_14 : decode cX7_init 14 = .ok (.return_, 1) := by decide +kernel
theorem dX8_init_0 : decode cX8_init 0 = .ok (.aload_n 0, 1) := by decide +kernel
theorem dX8_init_1 : decode cX8_init 1 = .ok (.invokespecial 3, 3) := by decide +kernel
theorem dX8_init_4 : decode cX8_init 4 = .ok (.aload_n 0, 1) := by decide +kernel
theorem dX8_init_5 : decode cX8_init 5 = .ok (.iconst 4, 1) := by decide +kernel
theorem dX8_init_6 : decode cX8_init 6 = .ok (.anewarray 9, 3) := by decide +kernel
theorem dX8_init_9 : decode cX8_init 9 = .ok (.putfield 11, 3) := by decide +kernel
theorem dX8_init_12 : decode cX8_init 12 = .ok (.aload_n 0, 1) := by decide +kernel
theorem dX8_init_13 : decode cX8_init 13 = .ok (.iconst 0, 1) := by decide +kernel
theorem dX8_init_14 : decode cX8_init 14 = .ok (.putfield 17, 3) := by decide +kernel
theorem dX8_init_17 : decode cX8_init 17 = .ok (.aload_n 0, 1) := by decide +kernel
theorem dX8_init_18 : decode cX8_init 18 = .ok (.new 21, 3) := by decide +kernel
theorem dX8_init_21 : decode cX8_init 21 = .ok (.dup, 1) := by decide +kernel
theorem dX8_init_22 : decode cX8_init 22 = .ok (.invokespecial 23, 3) := by decide +kernel
theorem dX8_init_25 : decode cX8_init 25 = .ok (.putfield 24, 3) := by decide +kernel
theorem dX8_init_28 : decode cX8_init 28 = .ok (.aload_n 0, 1) := by decide +kernel
theorem dX8_init_29 : decode cX8_init 29 = .ok (.new 28, 3) := by decide +kernel
theorem dX8_init_32 : decode cX8_init 32 = .ok (.dup, 1) := by decide +kernel
theorem dX8_init_33 : decode cX8_init 33 = .ok (.invokespecial 30, 3) := by decide +kernel
theorem dX8_init_36 : decode cX8_init 36 = .ok (.putfield 31, 3) := by decide +kernel
theorem dX8_init_39 : decode cX8_init 39 = .ok (.aload_n 0, 1) := by decide +kernel
theorem dX8_init_40 : decode cX8_init 40 = .ok (.bipush 60, 2) := by decide +kernel
theorem dX8_init_42 : decode cX8_init 42 = .ok (.newarray .int, 2) := by decide +kernel
theorem dX8_init_44 : decode cX8_init 44 = .ok (.putfield 35, 3) := by decide +kernel
theorem dX8_init_47 : decode cX8_init 47 = .ok (.aload_n 0, 1) := by decide +kernel
theorem dX8_init_48 : decode cX8_init 48 = .ok (.bipush 6, 2) := by decide +kernel
theorem dX8_init_50 : decode cX8_init 50 = .ok (.newarray .int, 2) := by decide +kernel
theorem dX8_init_52 : decode cX8_init 52 = .ok (.putfield 39, 3) := by decide +kernel
theorem dX8_init_55 : decode cX8_init 55 = .ok (.aload_n 0, 1) := by decide +kernel
theorem dX8_init_56 : decode cX8_init 56 = .ok (.new 42, 3) := by decide +kernel
theorem dX8_init_59 : decode cX8_init 59 = .ok (.dup, 1) := by decide +kernel
theorem dX8_init_60 : decode cX8_init 60 = .ok (.invokespecial 44, 3) := by decide +kernel
theorem dX8_init_63 : decode cX8_init 63 = .ok (.putfield 45, 3) := by decide +kernel
theorem dX8_init_66 : decode cX8_init 66 = .ok (.return_, 1) := by decide +kernel
theorem dX8_copyFrom_0 : decode cX8_copyFrom 0 = .ok (.aload_n 0, 1) := by decide +kernel
theorem dX8_copyFrom_1 : decode cX8_copyFrom 1 = .ok (.aload_n 1, 1) := by decide +kernel
theorem dX8_copyFrom_2 : decode cX8_copyFrom 2 = .ok (.getfield 49, 3) := by decide +kernel
theorem dX8_copyFrom_5 : decode cX8_copyFrom 5 = .ok (.putfield 49, 3) := by decide +kernel
theorem dX8_copyFrom_8 : decode cX8_copyFrom 8 = .ok (.iconst 0, 1) := by decide +kernel
theorem dX8_copyFrom_9 : decode cX8_copyFrom 9 = .ok (.istore_n 2, 1) := by decide +kernel
theorem dX8_copyFrom_10 : decode cX8_copyFrom 10 = .ok (.iload_n 2, 1) := by decide +kernel
theorem dX8_copyFrom_11 : decode cX8_copyFrom 11 = .ok (.iconst 4, 1) := by decide +kernel
theorem dX8_copyFrom_12 : decode cX8_copyFrom 12 = .ok (.if_icmp .ge 21, 3) := by decide +kernel
theorem dX8_copyFrom_15 : decode cX8_copyFrom 15 = .ok (.aload_n 0, 1) := by decide +kernel
theorem dX8_copyFrom_16 : decode cX8_copyFrom 16 = .ok (.getfield 11, 3) := by decide +kernel
theorem dX8_copyFrom_19 : decode cX8_copyFrom 19 = .ok (.iload_n 2, 1) := by decide +kernel
theorem dX8_copyFrom_20 : decode cX8_copyFrom 20 = .ok (.aload_n 1, 1) := by decide +kernel
theorem dX8_copyFrom_21 : decode cX8_copyFrom 21 = .ok (.getfield 11, 3) := by decide +kernel
theorem dX8_copyFrom_24 : decode cX8_copyFrom 24 = .ok (.iload_n 2, 1) := by decide +kernel
theorem dX8_copyFrom_25 : decode cX8_copyFrom 25 = .ok (.aaload, 1) := by decide +kernel
theorem dX8_copyFrom_26 : decode cX8_copyFrom 26 = .ok (.aastore, 1) := by decide +kernel
theorem dX8_copyFrom_27 : decode cX8_copyFrom 27 = .ok (.iinc 2 1, 3) := by decide +kernel
theorem dX8_copyFrom_30 : decode cX8_copyFrom 30 = .ok (.goto (-20), 3) := by decide +kernel
theorem dX8_copyFrom_33 : decode cX8_copyFrom 33 = .ok (.aload_n 0, 1) := by decide +kernel
theorem dX8_copyFrom_34 : decode cX8_copyFrom 34 = .ok (.aload_n 1, 1) := by decide +kernel
theorem dX8_copyFrom_35 : decode cX8_copyFrom 35 = .ok (.getfield 17, 3) := by decide +kernel
theorem dX8_copyFrom_38 : decode cX8_copyFrom 38 = .ok (.putfield 17, 3) := by decide +kernel
theorem dX8_copyFrom_41 : decode cX8_copyFrom 41 = .ok (.aload_n 0, 1) := by decide +kernel
theorem dX8_copyFrom_42 : decode cX8_copyFrom 42 = .ok (.aload_n 1, 1) := by decide +kernel
theorem dX8_copyFrom_43 : decode cX8_copyFrom 43 = .ok (.getfield 53, 3) := by decide +kernel
theorem dX8_copyFrom_46 : decode cX8_copyFrom 46 = .ok (.putfield 53, 3) := by decide +kernel
theorem dX8_copyFrom_49 : decode cX8_copyFrom 49 = .ok (.aload_n 0, 1) := by decide +kernel
theorem dX8_copyFrom_50 : decode cX8_copyFrom 50 = .ok (.aload_n 1, 1) := by decide +kernel
theorem dX8_copyFrom_51 : decode cX8_copyFrom 51 = .ok (.getfield 56, 3) := by decide +kernel
theorem dX8_copyFrom_54 : decode cX8_copyFrom 54 = .ok (.putfield 56, 3) := by decide +kernel
theorem dX8_copyFrom_57 : decode cX8_copyFrom 57 = .ok (.aload_n 0, 1) := by decide +kernel
theorem dX8_copyFrom_58 : decode cX8_copyFrom 58 = .ok (.aload_n 1, 1) := by decide +kernel
theorem dX8_copyFrom_59 : decode cX8_copyFrom 59 = .ok (.getfield 60, 3) := by decide +kernel
theorem dX8_copyFrom_62 : decode cX8_copyFrom 62 = .ok (.putfield 60, 3) := by decide +kernel
theorem dX8_copyFrom_65 : decode cX8_copyFrom 65 = .ok (.aload_n 0, 1) := by decide +kernel
theorem dX8_copyFrom_66 : decode cX8_copyFrom 66 = .ok (.aload_n 1, 1) := by decide +kernel
theorem dX8_copyFrom_67 : decode cX8_copyFrom 67 = .ok (.getfield 64, 3) := by decide +kernel
theorem dX8_copyFrom_70 : decode cX8_copyFrom 70 = .ok (.putfield 64, 3) := by decide +kernel
theorem dX8_copyFrom_73 : decode cX8_copyFrom 73 = .ok (.aload_n 0, 1) := by decide +kernel
theorem dX8_copyFrom_74 : decode cX8_copyFrom 74 = .ok (.aload_n 1, 1) := by decide +kernel
theorem dX8_copyFrom_75 : decode cX8_copyFrom 75 = .ok (.getfield 67, 3) := by decide +kernel
theorem dX8_copyFrom_78 : decode cX8_copyFrom 78 = .ok (.putfield 67, 3) := by decide +kernel
theorem dX8_copyFrom_81 : decode cX8_copyFrom 81 = .ok (.aload_n 0, 1) := by decide +kernel
theorem dX8_copyFrom_82 : decode cX8_copyFrom 82 = .ok (.getfield 24, 3) := by decide +kernel
theorem dX8_copyFrom_85 : decode cX8_copyFrom 85 = .ok (.aload_n 1, 1) := by decide +kernel
theorem dX8_copyFrom_86 : decode cX8_copyFrom 86 = .ok (.getfield 24, 3) := by decide +kernel
theorem dX8_copyFrom_89 : decode cX8_copyFrom 89 = .ok (.invokevirtual 70, 3) := by decide +kernel
theorem dX8_copyFrom_92 : decode cX8_copyFrom 92 = .ok (.aload_n 0, 1) := by decide +kernel
theorem dX8_copyFrom_93 : decode cX8_copyFrom 93 = .ok (.getfield 31, 3) := by decide +kernel
theorem dX8_copyFrom_96 : decode cX8_copyFrom 96 = .ok (.aload_n 1, 1) := by decide +kernel
theorem dX8_copyFrom_97 : decode cX8_copyFrom 97 = .ok (.getfield 31, 3) := by decide +kernel
theorem dX8_copyFrom_100 : decode cX8_copyFrom 100 = .ok (.invokevirtual 74, 3) := by decide +kernel
theorem dX8_copyFrom_103 : decode cX8_copyFrom 103 = .ok (.aload_n 1, 1) := by decide +kernel
theorem dX8_copyFrom_104 : decode cX8_copyFrom 104 = .ok (.getfield 35, 3) := by decide +kernel
theorem dX8_copyFrom_107 : decode cX8_copyFrom 107 = .ok (.iconst 0, 1) := by decide +kernel
theorem dX8_copyFrom_108 : decode cX8_copyFrom 108 = .ok (.aload_n 0, 1) := by decide +kernel
theorem dX8_copyFrom_109 : decode cX8_copyFrom 109 = .ok (.getfield 35, 3) := by decide +kernel
theorem dX8_copyFrom_112 : decode cX8_copyFrom 112 = .ok (.iconst 0, 1) := by decide +kernel
theorem dX8_copyFrom_113 : decode cX8_copyFrom 113 = .ok (.bipush 60, 2) := by decide +kernel
theorem dX8_copyFrom_115 : decode cX8_copyFrom 115 = .ok (.invokestatic 77, 3) := by decide +kernel
theorem dX8_copyFrom_118 : decode cX8_copyFrom 118 = .ok (.aload_n 0, 1) := by decide +kernel
theorem dX8_copyFrom_119 : decode cX8_copyFrom 119 = .ok (.aload_n 1, 1) := by decide +kernel
theorem dX8_copyFrom_120 : decode cX8_copyFrom 120 = .ok (.getfield 83, 3) := by decide +kernel
theorem dX8_copyFrom_123 : decode cX8_copyFrom 123 = .ok (.putfield 83, 3) := by decide +kernel
theorem dX8_copyFrom_126 : decode cX8_copyFrom 126 = .ok (.aload_n 1, 1) := by decide +kernel
theorem dX8_copyFrom_127 : decode cX8_copyFrom 127 = .ok (.getfield 39, 3) := by decide +kernel
theorem dX8_copyFrom_130 : decode cX8_copyFrom 130 = .ok (.iconst 0, 1) := by decide +kernel
theorem dX8_copyFrom_131 : decode cX8_copyFrom 131 = .ok (.aload_n 0, 1) := by decide +kernel
theorem dX8_copyFrom_132 : decode cX8_copyFrom 132 = .ok (.getfield 39, 3) := by decide +kernel
theorem dX8_copyFrom_135 : decode cX8_copyFrom 135 = .ok (.iconst 0, 1) := by decide +kernel
theorem dX8_copyFrom_136 : decode cX8_copyFrom 136 = .ok (.bipush 6, 2) := by decide +kernel
theorem dX8_copyFrom_138 : decode cX8_copyFrom 138 = .ok (.invokestatic 77, 3) := by decide +kernel
theorem dX8_copyFrom_141 : decode cX8_copyFrom 141 = .ok (.return_, 1) := by decide +kernel
theorem dX8_begin_0 : decode cX8_begin 0 = .ok (.aload_n 0, 1) := by decide +kernel
theorem dX8_begin_1 : decode cX8_begin 1 = .ok (.getfield 49, 3) := by decide +kernel
theorem dX8_begin_4 : decode cX8_begin 4 = .ok (.ifnonnull 4, 3) := by decide +kernel
theorem dX8_begin_7 : decode cX8_begin 7 = .ok (.return_, 1) := by decide +kernel
theorem dX8_begin_8 : decode cX8_begin 8 = .ok (.aload_n 0, 1) := by decide +kernel
theorem dX8_begin_9 : decode cX8_begin 9 = .ok (.iconst 1, 1) := by decide +kernel
theorem dX8_begin_10 : decode cX8_begin 10 = .ok (.putfield 17, 3) := by decide +kernel
theorem dX8_begin_13 : decode cX8_begin 13 = .ok (.aload_n 0, 1) := by decide +kernel
theorem dX8_begin_14 : decode cX8_begin 14 = .ok (.iconst 0, 1) := by decide +kernel
theorem dX8_begin_15 : decode cX8_begin 15 = .ok (.putfield 53, 3) := by decide +kernel
theorem dX8_begin_18 : decode cX8_begin 18 = .ok (.aload_n 0, 1) := by decide +kernel
theorem dX8_begin_19 : decode cX8_begin 19 = .ok (.aload_n 0, 1) := by decide +kernel
theorem dX8_begin_20 : decode cX8_begin 20 = .ok (.getfield 49, 3) := by decide +kernel
theorem dX8_begin_23 : decode cX8_begin 23 = .ok (.getfield 86, 3) := by decide +kernel
theorem dX8_begin_26 : decode cX8_begin 26 = .ok (.aconst_null, 1) := by decide +kernel
theorem dX8_begin_27 : decode cX8_begin 27 = .ok (.invokevirtual 89, 3) := by decide +kernel
theorem dX8_begin_30 : decode cX8_begin 30 = .ok (.aload_n 0, 1) := by decide +kernel
theorem dX8_begin_31 : decode cX8_begin 31 = .ok (.iconst 0, 1) := by decide +kernel
theorem dX8_begin_32 : decode cX8_begin 32 = .ok (.putfield 64, 3) := by decide +kernel
theorem dX8_begin_35 : decode cX8_begin 35 = .ok (.aload_n 0, 1) := by decide +kernel
theorem dX8_begin_36 : decode cX8_begin 36 = .ok (.getfield 24, 3) := by decide +kernel
theorem dX8_begin_39 : decode cX8_begin 39 = .ok (.invokevirtual 93, 3) := by decide +kernel
theorem dX8_begin_42 : decode cX8_begin 42 = .ok (.aload_n 0, 1) := by decide +kernel
theorem dX8_begin_43 : decode cX8_begin 43 = .ok (.getfield 31, 3) := by decide +kernel
theorem dX8_begin_46 : decode cX8_begin 46 = .ok (.invokevirtual 96, 3) := by decide +kernel
theorem dX8_begin_49 : decode cX8_begin 49 = .ok (.aload_n 0, 1) := by decide +kernel
theorem dX8_begin_50 : decode cX8_begin 50 = .ok (.iconst 0, 1) := by decide +kernel
theorem dX8_begin_51 : decode cX8_begin 51 = .ok (.putfield 83, 3) := by decide +kernel
theorem dX8_begin_54 : decode cX8_begin 54 = .ok (.aload_n 0, 1) := by decide +kernel
theorem dX8_begin_55 : decode cX8_begin 55 = .ok (.getfield 39, 3) := by decide +kernel
theorem dX8_begin_58 : decode cX8_begin 58 = .ok (.iconst 0, 1) := by decide +kernel
theorem dX8_begin_59 : decode cX8_begin 59 = .ok (.invokestatic 97, 3) := by decide +kernel
theorem dX8_begin_62 : decode cX8_begin 62 = .ok (.return_, 1) := by decide +kernel
theorem dX8_countPerformed_0 : decode cX8_countPerformed 0 = .ok (.iconst 0, 1) := by decide +kernel
theorem dX8_countPerformed_1 : decode cX8_countPerformed 1 = .ok (.istore_n 1, 1) := by decide +kernel
theorem dX8_countPerformed_2 : decode cX8_countPerformed 2 = .ok (.iconst 0, 1) := by decide +kernel
theorem dX8_countPerformed_3 : decode cX8_countPerformed 3 = .ok (.istore_n 2, 1) := by decide +kernel
theorem dX8_countPerformed_4 : decode cX8_countPerformed 4 = .ok (.iload_n 2, 1) := by decide +kernel
theorem dX8_countPerformed_5 : decode cX8_countPerformed 5 = .ok (.bipush 6, 2) := by decide +kernel
theorem dX8_countPerformed_7 : decode cX8_countPerformed 7 = .ok (.if_icmp .ge 18, 3) := by decide +kernel
theorem dX8_countPerformed_10 : decode cX8_countPerformed 10 = .ok (.iload_n 1, 1) := by decide +kernel
theorem dX8_countPerformed_11 : decode cX8_countPerformed 11 = .ok (.aload_n 0, 1) := by decide +kernel
theorem dX8_countPerformed_12 : decode cX8_countPerformed 12 = .ok (.getfield 39, 3) := by decide +kernel
theorem dX8_countPerformed_15 : decode cX8_countPerformed 15 = .ok (.iload_n 2, 1) := by decide +kernel
theorem dX8_countPerformed_16 : decode cX8_countPerformed 16 = .ok (.iaload, 1) := by decide +kernel
theorem dX8_countPerformed_17 : decode cX8_countPerformed 17 = .ok (.iadd, 1) := by decide +kernel
theorem dX8_countPerformed_18 : decode cX8_countPerformed 18 = .ok (.istore_n 1, 1) := by decide +kernel
theorem dX8_countPerformed_19 : decode cX8_countPerformed 19 = .ok (.iinc 2 1, 3) := by decide +kernel
theorem dX8_countPerformed_22 : decode cX8_countPerformed 22 = .ok (.goto (-18), 3) := by decide +kernel
theorem dX8_countPerformed_25 : decode cX8_countPerformed 25 = .ok (.iload_n 1, 1) := by decide +kernel
theorem dX8_countPerformed_26 : decode cX8_countPerformed 26 = .ok (.ireturn, 1) := by decide +kernel
theorem dX8_countDefined_0 : decode cX8_countDefined 0 = .ok (.iconst 0, 1) := by decide +kernel
theorem dX8_countDefined_1 : decode cX8_countDefined 1 = .ok (.istore_n 1, 1) := by decide +kernel
theorem dX8_countDefined_2 : decode cX8_countDefined 2 = .ok (.iconst 0, 1) := by decide +kernel
theorem dX8_countDefined_3 : decode cX8_countDefined 3 = .ok (.istore_n 2, 1) := by decide +kernel
theorem dX8_countDefined_4 : decode cX8_countDefined 4 = .ok (.iload_n 2, 1) := by decide +kernel
theorem dX8_countDefined_5 : decode cX8_countDefined 5 = .ok (.iconst 4, 1) := by decide +kernel
theorem dX8_countDefined_6 : decode cX8_countDefined 6 = .ok (.if_icmp .ge 21, 3) := by decide +kernel
theorem dX8_countDefined_9 : decode cX8_countDefined 9 = .ok (.aload_n 0, 1) := by decide +kernel
theorem dX8_countDefined_10 : decode cX8_countDefined 10 = .ok (.getfield 11, 3) := by decide +kernel
theorem dX8_countDefined_13 : decode cX8_countDefined 13 = .ok (.iload_n 2, 1) := by decide +kernel
theorem dX8_countDefined_14 : decode cX8_countDefined 14 = .ok (.aaload, 1) := by decide +kernel
theorem dX8_countDefined_15 : decode cX8_countDefined 15 = .ok (.ifnull 6, 3) := by decide +kernel
theorem dX8_countDefined_18 : decode cX8_countDefined 18 = .ok (.iinc 1 1, 3) := by decide +kernel
theorem dX8_countDefined_21 : decode cX8_countDefined 21 = .ok (.iinc 2 1, 3) := by decide +kernel
theorem dX8_countDefined_24 : decode cX8_countDefined 24 = .ok (.goto (-20), 3) := by decide +kernel
theorem dX8_countDefined_27 : decode cX8_countDefined 27 = .ok (.iload_n 1, 1) := by decide +kernel
theorem dX8_countDefined_28 : decode cX8_countDefined 28 = .ok (.ireturn, 1) := by decide +kernel
theorem dX8_propertyOf_0 : decode cX8_propertyOf 0 = .ok (.aload_n 1, 1) := by decide +kernel
theorem dX8_propertyOf_1 : decode cX8_propertyOf 1 = .ok (.getfield 103, 3) := by decide +kernel
theorem dX8_propertyOf_4 : decode cX8_propertyOf 4 = .ok (.tableswitch 113 2 14 #[76, 113, 113, 113, 113, 68, 68, 101, 68, 89, 81, 76, 89], 68) := by decide +kernel
theorem dX8_propertyOf_72 : decode cX8_propertyOf 72 = .ok (.aload_n 1, 1) := by decide +kernel
theorem dX8_propertyOf_73 : decode cX8_propertyOf 73 = .ok (.getfield 108, 3) := by decide +kernel
theorem dX8_propertyOf_76 : decode cX8_propertyOf 76 = .ok (.getfield 111, 3) := by decide +kernel
theorem dX8_propertyOf_79 : decode cX8_propertyOf 79 = .ok (.ireturn, 1) := by decide +kernel
theorem dX8_propertyOf_80 : decode cX8_propertyOf 80 = .ok (.aload_n 1, 1) := by decide +kernel
theorem dX8_propertyOf_81 : decode cX8_propertyOf 81 = .ok (.getfield 116, 3) := by decide +kernel
theorem dX8_propertyOf_84 : decode cX8_propertyOf 84 = .ok (.ireturn, 1) := by decide +kernel
theorem dX8_propertyOf_85 : decode cX8_propertyOf 85 = .ok (.aload_n 1, 1) := by decide +kernel
theorem dX8_propertyOf_86 : decode cX8_propertyOf 86 = .ok (.getfield 108, 3) := by decide +kernel
theorem dX8_propertyOf_89 : decode cX8_propertyOf 89 = .ok (.invokevirtual 119, 3) := by decide +kernel
theorem dX8_propertyOf_92 : decode cX8_propertyOf 92 = .ok (.ireturn, 1) := by decide +kernel
theorem dX8_propertyOf_93 : decode cX8_propertyOf 93 = .ok (.aload_n 0, 1) := by decide +kernel
theorem dX8_propertyOf_94 : decode cX8_propertyOf 94 = .ok (.getfield 31, 3) := by decide +kernel
theorem dX8_propertyOf_97 : decode cX8_propertyOf 97 = .ok (.aload_n 1, 1) := by decide +kernel
theorem dX8_propertyOf_98 : decode cX8_propertyOf 98 = .ok (.getfield 123, 3) := by decide +kernel
theorem dX8_propertyOf_101 : decode cX8_propertyOf 101 = .ok (.invokevirtual 127, 3) := by decide +kernel
theorem dX8_propertyOf_104 : decode cX8_propertyOf 104 = .ok (.ireturn, 1) := by decide +kernel
theorem dX8_propertyOf_105 : decode cX8_propertyOf 105 = .ok (.aload_n 0, 1) := by decide +kernel
theorem dX8_propertyOf_106 : decode cX8_propertyOf 106 = .ok (.getfield 31, 3) := by decide +kernel
theorem dX8_propertyOf_109 : decode cX8_propertyOf 109 = .ok (.aload_n 1, 1) := by decide +kernel
theorem dX8_propertyOf_110 : decode cX8_propertyOf 110 = .ok (.getfield 116, 3) := by decide +kernel
theorem dX8_propertyOf_113 : decode cX8_propertyOf 113 = .ok (.invokevirtual 131, 3) := by decide +kernel
theorem dX8_propertyOf_116 : decode cX8_propertyOf 116 = .ok (.ireturn, 1) := by decide +kernel
theorem dX8_propertyOf_117 : decode cX8_propertyOf 117 = .ok (.bipush (-9), 2) := by decide +kernel
theorem dX8_propertyOf_119 : decode cX8_propertyOf 119 = .ok (.ireturn, 1) := by decide +kernel
theorem dX8_gatherLeaves_0 : decode cX8_gatherLeaves 0 = .ok (.aload_n 0, 1) := by decide +kernel
theorem dX8_gatherLeaves_1 : decode cX8_gatherLeaves 1 = .ok (.getfield 49, 3) := by decide +kernel
theorem dX8_gatherLeaves_4 : decode cX8_gatherLeaves 4 = .ok (.ifnull 10, 3) := by decide +kernel
theorem dX8_gatherLeaves_7 : decode cX8_gatherLeaves 7 = .ok (.aload_n 0, 1) := by decide +kernel
theorem dX8_gatherLeaves_8 : decode cX8_gatherLeaves 8 = .ok (.getfield 49, 3) := by decide +kernel
theorem dX8_gatherLeaves_11 : decode cX8_gatherLeaves 11 = .ok (.invokevirtual 135, 3) := by decide +kernel
theorem dX8_gatherLeaves_14 : decode cX8_gatherLeaves 14 = .ok (.iconst 0, 1) := by decide +kernel
theorem dX8_gatherLeaves_15 : decode cX8_gatherLeaves 15 = .ok (.istore_n 1, 1) := by decide +kernel
theorem dX8_gatherLeaves_16 : decode cX8_gatherLeaves 16 = .ok (.iload_n 1, 1) := by decide +kernel
theorem dX8_gatherLeaves_17 : decode cX8_gatherLeaves 17 = .ok (.iconst 4, 1) := by decide +kernel
theorem dX8_gatherLeaves_18 : decode cX8_gatherLeaves 18 = .ok (.if_icmp .ge 27, 3) := by decide +kernel
theorem dX8_gatherLeaves_21 : decode cX8_gatherLeaves 21 = .ok (.aload_n 0, 1) := by decide +kernel
theorem dX8_gatherLeaves_22 : decode cX8_gatherLeaves 22 = .ok (.getfield 11, 3) := by decide +kernel
theorem dX8_gatherLeaves_25 : decode cX8_gatherLeaves 25 = .ok (.iload_n 1, 1) := by decide +kernel
theorem dX8_gatherLeaves_26 : decode cX8_gatherLeaves 26 = .ok (.aaload, 1) := by decide +kernel
theorem dX8_gatherLeaves_27 : decode cX8_gatherLeaves 27 = .ok (.ifnull 12, 3) := by decide +kernel
theorem dX8_gatherLeaves_30 : decode cX8_gatherLeaves 30 = .ok (.aload_n 0, 1) := by decide +kernel
theorem dX8_gatherLeaves_31 : decode cX8_gatherLeaves 31 = .ok (.getfield 11, 3) := by decide +kernel
theorem dX8_gatherLeaves_34 : decode cX8_gatherLeaves 34 = .ok (.iload_n 1, 1) := by decide +kernel
theorem dX8_gatherLeaves_35 : decode cX8_gatherLeaves 35 = .ok (.aaload, 1) := by decide +kernel
theorem dX8_gatherLeaves_36 : decode cX8_gatherLeaves 36 = .ok (.invokevirtual 135, 3) := by decide +kernel
theorem dX8_gatherLeaves_39 : decode cX8_gatherLeaves 39 = .ok (.iinc 1 1, 3) := by decide +kernel
theorem dX8_gatherLeaves_42 : decode cX8_gatherLeaves 42 = .ok (.goto (-26), 3) := by decide +kernel
theorem dX8_gatherLeaves_45 : decode cX8_gatherLeaves 45 = .ok (.iconst 1, 1) := by decide +kernel
theorem dX8_gatherLeaves_46 : decode cX8_gatherLeaves 46 = .ok (.istore_n 1, 1) := by decide +kernel
theorem dX8_gatherLeaves_47 : decode cX8_gatherLeaves 47 = .ok (.iconst 0, 1) := by decide +kernel
theorem dX8_gatherLeaves_48 : decode cX8_gatherLeaves 48 = .ok (.istore_n 2, 1) := by decide +kernel
theorem dX8_gatherLeaves_49 : decode cX8_gatherLeaves 49 = .ok (.iload_n 2, 1) := by decide +kernel
theorem dX8_gatherLeaves_50 : decode cX8_gatherLeaves 50 = .ok (.ldc 138, 2) := by decide +kernel
theorem dX8_gatherLeaves_52 : decode cX8_gatherLeaves 52 = .ok (.if_icmp .ge 80, 3) := by decide +kernel
theorem dX8_gatherLeaves_55 : decode cX8_gatherLeaves 55 = .ok (.iload_n 1, 1) := by decide +kernel
theorem dX8_gatherLeaves_56 : decode cX8_gatherLeaves 56 = .ok (.ifCond .eq 76, 3) := by decide +kernel
theorem dX8_gatherLeaves_59 : decode cX8_gatherLeaves 59 = .ok (.aload_n 0, 1) := by decide +kernel
theorem dX8_gatherLeaves_60 : decode cX8_gatherLeaves 60 = .ok (.getfield 49, 3) := by decide +kernel
theorem dX8_gatherLeaves_63 : decode cX8_gatherLeaves 63 = .ok (.ifnull 21, 3) := by decide +kernel
theorem dX8_gatherLeaves_66 : decode cX8_gatherLeaves 66 = .ok (.aload_n 0, 1) := by decide +kernel
theorem dX8_gatherLeaves_67 : decode cX8_gatherLeaves 67 = .ok (.getfield 49, 3) := by decide +kernel
theorem dX8_gatherLeaves_70 : decode cX8_gatherLeaves 70 = .ok (.aload_n 0, 1) := by decide +kernel
theorem dX8_gatherLeaves_71 : decode cX8_gatherLeaves 71 = .ok (.getfield 11, 3) := by decide +kernel
theorem dX8_gatherLeaves_74 : decode cX8_gatherLeaves 74 = .ok (.invokevirtual 139, 3) := by decide +kernel
theorem dX8_gatherLeaves_77 : decode cX8_gatherLeaves 77 = .ok (.ifCond .eq 7, 3) := by decide +kernel
theorem dX8_gatherLeaves_80 : decode cX8_gatherLeaves 80 = .ok (.iconst 1, 1) := by decide +kernel
theorem dX8_gatherLeaves_81 : decode cX8_gatherLeaves 81 = .ok (.goto 4, 3) := by decide +kernel
theorem dX8_gatherLeaves_84 : decode cX8_gatherLeaves 84 = .ok (.iconst 0, 1) := by decide +kernel
theorem dX8_gatherLeaves_85 : decode cX8_gatherLeaves 85 = .ok (.istore_n 1, 1) := by decide +kernel
theorem dX8_gatherLeaves_86 : decode cX8_gatherLeaves 86 = .ok (.iconst 0, 1) := by decide +kernel
theorem dX8_gatherLeaves_87 : decode cX8_gatherLeaves 87 = .ok (.istore_n 3, 1) := by decide +kernel
theorem dX8_gatherLeaves_88 : decode cX8_gatherLeaves 88 = .ok (.iload_n 3, 1) := by decide +kernel
theorem dX8_gatherLeaves_89 : decode cX8_gatherLeaves 89 = .ok (.iconst 4, 1) := by decide +kernel
theorem dX8_gatherLeaves_90 : decode cX8_gatherLeaves 90 = .ok (.if_icmp .ge 36, 3) := by decide +kernel
theorem dX8_gatherLeaves_93 : decode cX8_gatherLeaves 93 = .ok (.aload_n 0, 1) := by decide +kernel
theorem dX8_gatherLeaves_94 : decode cX8_gatherLeaves 94 = .ok (.getfield 11, 3) := by decide +kernel
theorem dX8_gatherLeaves_97 : decode cX8_gatherLeaves 97 = .ok (.iload_n 3, 1) := by decide +kernel
theorem dX8_gatherLeaves_98 : decode cX8_gatherLeaves 98 = .ok (.aaload, 1) := by decide +kernel
theorem dX8_gatherLeaves_99 : decode cX8_gatherLeaves 99 = .ok (.ifnull 21, 3) := by decide +kernel
theorem dX8_gatherLeaves_102 : decode cX8_gatherLeaves 102 = .ok (.aload_n 0, 1) := by decide +kernel
theorem dX8_gatherLeaves_103 : decode cX8_gatherLeaves 103 = .ok (.getfield 11, 3) := by decide +kernel
theorem dX8_gatherLeaves_106 : decode cX8_gatherLeaves 106 = .ok (.iload_n 3, 1) := by decide +kernel
theorem dX8_gatherLeaves_107 : decode cX8_gatherLeaves 107 = .ok (.aaload, 1) := by decide +kernel
theorem dX8_gatherLeaves_108 : decode cX8_gatherLeaves 108 = .ok (.aload_n 0, 1) := by decide +kernel
theorem dX8_gatherLeaves_109 : decode cX8_gatherLeaves 109 = .ok (.getfield 11, 3) := by decide +kernel
theorem dX8_gatherLeaves_112 : decode cX8_gatherLeaves 112 = .ok (.invokevirtual 139, 3) := by decide +kernel
theorem dX8_gatherLeaves_115 : decode cX8_gatherLeaves 115 = .ok (.ifCond .eq 5, 3) := by decide +kernel
theorem dX8_gatherLeaves_118 : decode cX8_gatherLeaves 118 = .ok (.iconst 1, 1) := by decide +kernel
theorem dX8_gatherLeaves_119 : decode cX8_gatherLeaves 119 = .ok (.istore_n 1, 1) := by decide +kernel
theorem dX8_gatherLeaves_120 : decode cX8_gatherLeaves 120 = .ok (.iinc 3 1, 3) := by decide +kernel
theorem dX8_gatherLeaves_123 : decode cX8_gatherLeaves 123 = .ok (.goto (-35), 3) := by decide +kernel
theorem dX8_gatherLeaves_126 : decode cX8_gatherLeaves 126 = .ok (.iinc 2 1, 3) := by decide +kernel
theorem dX8_gatherLeaves_129 : decode cX8_gatherLeaves 129 = .ok (.goto (-80), 3) := by decide +kernel
theorem dX8_gatherLeaves_132 : decode cX8_gatherLeaves 132 = .ok (.return_, 1) := by decide +kernel
theorem dX8_step_0 : decode cX8_step 0 = .ok (.aload_n 0, 1) := by decide +kernel
theorem dX8_step_1 : decode cX8_step 1 = .ok (.getfield 56, 3) := by decide +kernel
theorem dX8_step_4 : decode cX8_step 4 = .ok (.ifnull 14, 3) := by decide +kernel
theorem dX8_step_7 : decode cX8_step 7 = .ok (.aload_n 0, 1) := by decide +kernel
theorem dX8_step_8 : decode cX8_step 8 = .ok (.aload_n 0, 1) := by decide +kernel
theorem dX8_step_9 : decode cX8_step 9 = .ok (.getfield 56, 3) := by decide +kernel
theorem dX8_step_12 : decode cX8_step 12 = .ok (.invokevirtual 143, 3) := by decide +kernel
theorem dX8_step_15 : decode cX8_step 15 = .ok (.goto 15, 3) := by decide +kernel
theorem dX8_step_18 : decode cX8_step 18 = .ok (.aload_n 0, 1) := by decide +kernel
theorem dX8_step_19 : decode cX8_step 19 = .ok (.aload_n 0, 1) := by decide +kernel
theorem dX8_step_20 : decode cX8_step 20 = .ok (.getfield 24, 3) := by decide +kernel
theorem dX8_step_23 : decode cX8_step 23 = .ok (.iconst 0, 1) := by decide +kernel
theorem dX8_step_24 : decode cX8_step 24 = .ok (.invokevirtual 147, 3) := by decide +kernel
theorem dX8_step_27 : decode cX8_step 27 = .ok (.invokevirtual 151, 3) := by decide +kernel
theorem dX8_step_30 : decode cX8_step 30 = .ok (.istore_n 1, 1) := by decide +kernel
theorem dX8_step_31 : decode cX8_step 31 = .ok (.iload_n 1, 1) := by decide +kernel
theorem dX8_step_32 : decode cX8_step 32 = .ok (.ifCond .ne 9, 3) := by decide +kernel
theorem dX8_step_35 : decode cX8_step 35 = .ok (.aload_n 0, 1) := by decide +kernel
theorem dX8_step_36 : decode cX8_step 36 = .ok (.iconst 4, 1) := by decide +kernel
theorem dX8_step_37 : decode cX8_step 37 = .ok (.putfield 17, 3) := by decide +kernel
theorem dX8_step_40 : decode cX8_step 40 = .ok (.return_, 1) := by decide +kernel
theorem dX8_step_41 : decode cX8_step 41 = .ok (.aload_n 0, 1) := by decide +kernel
theorem dX8_step_42 : decode cX8_step 42 = .ok (.dup, 1) := by decide +kernel
theorem dX8_step_43 : decode cX8_step 43 = .ok (.getfield 53, 3) := by decide +kernel
theorem dX8_step_46 : decode cX8_step 46 = .ok (.iconst 1, 1) := by decide +kernel
theorem dX8_step_47 : decode cX8_step 47 = .ok (.iadd, 1) := by decide +kernel
theorem dX8_step_48 : decode cX8_step 48 = .ok (.putfield 53, 3) := by decide +kernel
theorem dX8_step_51 : decode cX8_step 51 = .ok (.aload_n 0, 1) := by decide +kernel
theorem dX8_step_52 : decode cX8_step 52 = .ok (.invokevirtual 155, 3) := by decide +kernel
theorem dX8_step_55 : decode cX8_step 55 = .ok (.return_, 1) := by decide +kernel
theorem dX8_endIfDue_0 : decode cX8_endIfDue 0 = .ok (.aload_n 0, 1) := by decide +kernel
theorem dX8_endIfDue_1 : decode cX8_endIfDue 1 = .ok (.getfield 17, 3) := by decide +kernel
theorem dX8_endIfDue_4 : decode cX8_endIfDue 4 = .ok (.iconst 1, 1) := by decide +kernel
theorem dX8_endIfDue_5 : decode cX8_endIfDue 5 = .ok (.if_icmp .eq 4, 3) := by decide +kernel
theorem dX8_endIfDue_8 : decode cX8_endIfDue 8 = .ok (.return_, 1) := by decide +kernel
theorem dX8_endIfDue_9 : decode cX8_endIfDue 9 = .ok (.aload_n 0, 1) := by decide +kernel
theorem dX8_endIfDue_10 : decode cX8_endIfDue 10 = .ok (.getfield 56, 3) := by decide +kernel
theorem dX8_endIfDue_13 : decode cX8_endIfDue 13 = .ok (.ifnonnull 21, 3) := by decide +kernel
theorem dX8_endIfDue_16 : decode cX8_endIfDue 16 = .ok (.aload_n 0, 1) := by decide +kernel
theorem dX8_endIfDue_17 : decode cX8_endIfDue 17 = .ok (.getfield 24, 3) := by decide +kernel
theorem dX8_endIfDue_20 : decode cX8_endIfDue 20 = .ok (.getfield 158, 3) := by decide +kernel
theorem dX8_endIfDue_23 : decode cX8_endIfDue 23 = .ok (.ifCond .ne 11, 3) := by decide +kernel
theorem dX8_endIfDue_26 : decode cX8_endIfDue 26 = .ok (.aload_n 0, 1) := by decide +kernel
theorem dX8_endIfDue_27 : decode cX8_endIfDue 27 = .ok (.iconst 2, 1) := by decide +kernel
theorem dX8_endIfDue_28 : decode cX8_endIfDue 28 = .ok (.putfield 17, 3) := by decide +kernel
theorem dX8_endIfDue_31 : decode cX8_endIfDue 31 = .ok (.goto 18, 3) := by decide +kernel
theorem dX8_endIfDue_34 : decode cX8_endIfDue 34 = .ok (.aload_n 0, 1) := by decide +kernel
theorem dX8_endIfDue_35 : decode cX8_endIfDue 35 = .ok (.getfield 53, 3) := by decide +kernel
theorem dX8_endIfDue_38 : decode cX8_endIfDue 38 = .ok (.sipush 1000, 3) := by decide +kernel
theorem dX8_endIfDue_41 : decode cX8_endIfDue 41 = .ok (.if_icmp .lt 8, 3) := by decide +kernel
theorem dX8_endIfDue_44 : decode cX8_endIfDue 44 = .ok (.aload_n 0, 1) := by decide +kernel
theorem dX8_endIfDue_45 : decode cX8_endIfDue 45 = .ok (.iconst 5, 1) := by decide +kernel
theorem dX8_endIfDue_46 : decode cX8_endIfDue 46 = .ok (.putfield 17, 3) := by decide +kernel
theorem dX8_endIfDue_49 : decode cX8_endIfDue 49 = .ok (.return_, 1) := by decide +kernel
theorem dX8_goOnWith_0 : decode cX8_goOnWith 0 = .ok (.aload_n 0, 1) := by decide +kernel
theorem dX8_goOnWith_1 : decode cX8_goOnWith 1 = .ok (.aconst_null, 1) := by decide +kernel
theorem dX8_goOnWith_2 : decode cX8_goOnWith 2 = .ok (.putfield 56, 3) := by decide +kernel
theorem dX8_goOnWith_5 : decode cX8_goOnWith 5 = .ok (.aload_n 0, 1) := by decide +kernel
theorem dX8_goOnWith_6 : decode cX8_goOnWith 6 = .ok (.iload_n 1, 1) := by decide +kernel
theorem dX8_goOnWith_7 : decode cX8_goOnWith 7 = .ok (.putfield 64, 3) := by decide +kernel
theorem dX8_goOnWith_10 : decode cX8_goOnWith 10 = .ok (.aload_n 0, 1) := by decide +kernel
theorem dX8_goOnWith_11 : decode cX8_goOnWith 11 = .ok (.iconst 1, 1) := by decide +kernel
theorem dX8_goOnWith_12 : decode cX8_goOnWith 12 = .ok (.putfield 17, 3) := by decide +kernel
theorem dX8_goOnWith_15 : decode cX8_goOnWith 15 = .ok (.aload_n 0, 1) := by decide +kernel
theorem dX8_goOnWith_16 : decode cX8_goOnWith 16 = .ok (.invokevirtual 155, 3) := by decide +kernel
theorem dX8_goOnWith_19 : decode cX8_goOnWith 19 = .ok (.return_, 1) := by decide +kernel
theorem dX8_captureDownTo_0 : decode cX8_captureDownTo 0 = .ok (.aload_n 0, 1) := by decide +kernel
theorem dX8_captureDownTo_1 : decode cX8_captureDownTo 1 = .ok (.getfield 31, 3) := by decide +kernel
theorem dX8_captureDownTo_4 : decode cX8_captureDownTo 4 = .ok (.aload_n 0, 1) := by decide +kernel
theorem dX8_captureDownTo_5 : decode cX8_captureDownTo 5 = .ok (.getfield 24, 3) := by decide +kernel
theorem dX8_captureDownTo_8 : decode cX8_captureDownTo 8 = .ok (.iload_n 1, 1) := by decide +kernel
theorem dX8_captureDownTo_9 : decode cX8_captureDownTo 9 = .ok (.invokevirtual 161, 3) := by decide +kernel
theorem dX8_captureDownTo_12 : decode cX8_captureDownTo 12 = .ok (.invokevirtual 165, 3) := by decide +kernel
theorem dX8_captureDownTo_15 : decode cX8_captureDownTo 15 = .ok (.astore_n 2, 1) := by decide +kernel
theorem dX8_captureDownTo_16 : decode cX8_captureDownTo 16 = .ok (.aload_n 0, 1) := by decide +kernel
theorem dX8_captureDownTo_17 : decode cX8_captureDownTo 17 = .ok (.getfield 24, 3) := by decide +kernel
theorem dX8_captureDownTo_20 : decode cX8_captureDownTo 20 = .ok (.new 104, 3) := by decide +kernel
theorem dX8_captureDownTo_23 : decode cX8_captureDownTo 23 = .ok (.dup, 1) := by decide +kernel
theorem dX8_captureDownTo_24 : decode cX8_captureDownTo 24 = .ok (.bipush 14, 2) := by decide +kernel
theorem dX8_captureDownTo_26 : decode cX8_captureDownTo 26 = .ok (.aconst_null, 1) := by decide +kernel
theorem dX8_captureDownTo_27 : decode cX8_captureDownTo 27 = .ok (.aconst_null, 1) := by decide +kernel
theorem dX8_captureDownTo_28 : decode cX8_captureDownTo 28 = .ok (.iconst 0, 1) := by decide +kernel
theorem dX8_captureDownTo_29 : decode cX8_captureDownTo 29 = .ok (.aload_n 2, 1) := by decide +kernel
theorem dX8_captureDownTo_30 : decode cX8_captureDownTo 30 = .ok (.invokespecial 169, 3) := by decide +kernel
theorem dX8_captureDownTo_33 : decode cX8_captureDownTo 33 = .ok (.invokevirtual 172, 3) := by decide +kernel
theorem dX8_captureDownTo_36 : decode cX8_captureDownTo 36 = .ok (.aload_n 2, 1) := by decide +kernel
theorem dX8_captureDownTo_37 : decode cX8_captureDownTo 37 = .ok (.areturn, 1) := by decide +kernel
theorem dX8_goTo_0 : decode cX8_goTo 0 = .ok (.aload_n 0, 1) := by decide +kernel
theorem dX8_goTo_1 : decode cX8_goTo 1 = .ok (.aload_n 1, 1) := by decide +kernel
theorem dX8_goTo_2 : decode cX8_goTo 2 = .ok (.putfield 56, 3) := by decide +kernel
theorem dX8_goTo_5 : decode cX8_goTo 5 = .ok (.aload_n 0, 1) := by decide +kernel
theorem dX8_goTo_6 : decode cX8_goTo 6 = .ok (.aload_n 2, 1) := by decide +kernel
theorem dX8_goTo_7 : decode cX8_goTo 7 = .ok (.putfield 60, 3) := by decide +kernel
theorem dX8_goTo_10 : decode cX8_goTo 10 = .ok (.return_, 1) := by decide +kernel
theorem dX8_stepInto_0 : decode cX8_stepInto 0 = .ok (.aload_n 1, 1) := by decide +kernel
theorem dX8_stepInto_1 : decode cX8_stepInto 1 = .ok (.getfield 176, 3) := by decide +kernel
theorem dX8_stepInto_4 : decode cX8_stepInto 4 = .ok (.bipush 48, 2) := by decide +kernel
theorem dX8_stepInto_6 : decode cX8_stepInto 6 = .ok (.if_icmp .ne 18, 3) := by decide +kernel
theorem dX8_stepInto_9 : decode cX8_stepInto 9 = .ok (.aload_n 0, 1) := by decide +kernel
theorem dX8_stepInto_10 : decode cX8_stepInto 10 = .ok (.aload_n 1, 1) := by decide +kernel
theorem dX8_stepInto_11 : decode cX8_stepInto 11 = .ok (.getfield 111, 3) := by decide +kernel
theorem dX8_stepInto_14 : decode cX8_stepInto 14 = .ok (.putfield 64, 3) := by decide +kernel
theorem dX8_stepInto_17 : decode cX8_stepInto 17 = .ok (.aload_n 0, 1) := by decide +kernel
theorem dX8_stepInto_18 : decode cX8_stepInto 18 = .ok (.aconst_null, 1) := by decide +kernel
theorem dX8_stepInto_19 : decode cX8_stepInto 19 = .ok (.putfield 56, 3) := by decide +kernel
theorem dX8_stepInto_22 : decode cX8_stepInto 22 = .ok (.iconst 1, 1) := by decide +kernel
theorem dX8_stepInto_23 : decode cX8_stepInto 23 = .ok (.ireturn, 1) := by decide +kernel
theorem dX8_stepInto_24 : decode cX8_stepInto 24 = .ok (.aload_n 1, 1) := by decide +kernel
theorem dX8_stepInto_25 : decode cX8_stepInto 25 = .ok (.getfield 176, 3) := by decide +kernel
theorem dX8_stepInto_28 : decode cX8_stepInto 28 = .ok (.bipush 97, 2) := by decide +kernel
theorem dX8_stepInto_30 : decode cX8_stepInto 30 = .ok (.if_icmp .ne 25, 3) := by decide +kernel
theorem dX8_stepInto_33 : decode cX8_stepInto 33 = .ok (.aload_n 0, 1) := by decide +kernel
theorem dX8_stepInto_34 : decode cX8_stepInto 34 = .ok (.aload_n 0, 1) := by decide +kernel
theorem dX8_stepInto_35 : decode cX8_stepInto 35 = .ok (.getfield 60, 3) := by decide +kernel
theorem dX8_stepInto_38 : decode cX8_stepInto 38 = .ok (.aload_n 1, 1) := by decide +kernel
theorem dX8_stepInto_39 : decode cX8_stepInto 39 = .ok (.getfield 111, 3) := by decide +kernel
theorem dX8_stepInto_42 : decode cX8_stepInto 42 = .ok (.invokestatic 179, 3) := by decide +kernel
theorem dX8_stepInto_45 : decode cX8_stepInto 45 = .ok (.putfield 64, 3) := by decide +kernel
theorem dX8_stepInto_48 : decode cX8_stepInto 48 = .ok (.aload_n 0, 1) := by decide +kernel
theorem dX8_stepInto_49 : decode cX8_stepInto 49 = .ok (.aconst_null, 1) := by decide +kernel
theorem dX8_stepInto_50 : decode cX8_stepInto 50 = .ok (.putfield 56, 3) := by decide +kernel
theorem dX8_stepInto_53 : decode cX8_stepInto 53 = .ok (.iconst 1, 1) := by decide +kernel
theorem dX8_stepInto_54 : decode cX8_stepInto 54 = .ok (.ireturn, 1) := by decide +kernel
theorem dX8_stepInto_55 : decode cX8_stepInto 55 = .ok (.aload_n 0, 1) := by decide +kernel
theorem dX8_stepInto_56 : decode cX8_stepInto 56 = .ok (.getfield 24, 3) := by decide +kernel
theorem dX8_stepInto_59 : decode cX8_stepInto 59 = .ok (.iconst 1, 1) := by decide +kernel
theorem dX8_stepInto_60 : decode cX8_stepInto 60 = .ok (.invokevirtual 185, 3) := by decide +kernel
theorem dX8_stepInto_63 : decode cX8_stepInto 63 = .ok (.ifCond .ne 5, 3) := by decide +kernel
theorem dX8_stepInto_66 : decode cX8_stepInto 66 = .ok (.iconst 0, 1) := by decide +kernel
theorem dX8_stepInto_67 : decode cX8_stepInto 67 = .ok (.ireturn, 1) := by decide +kernel
theorem dX8_stepInto_68 : decode cX8_stepInto 68 = .ok (.aload_n 1, 1) := by decide +kernel
theorem dX8_stepInto_69 : decode cX8_stepInto 69 = .ok (.invokevirtual 189, 3) := by decide +kernel
theorem dX8_stepInto_72 : decode cX8_stepInto 72 = .ok (.istore_n 2, 1) := by decide +kernel
theorem dX8_stepInto_73 : decode cX8_stepInto 73 = .ok (.iload_n 2, 1) := by decide +kernel
theorem dX8_stepInto_74 : decode cX8_stepInto 74 = .ok (.bipush 9, 2) := by decide +kernel
theorem dX8_stepInto_76 : decode cX8_stepInto 76 = .ok (.if_icmp .ne 13, 3) := by decide +kernel
theorem dX8_stepInto_79 : decode cX8_stepInto 79 = .ok (.aload_n 0, 1) := by decide +kernel
theorem dX8_stepInto_80 : decode cX8_stepInto 80 = .ok (.getfield 31, 3) := by decide +kernel
theorem dX8_stepInto_83 : decode cX8_stepInto 83 = .ok (.invokevirtual 192, 3) := by decide +kernel
theorem dX8_stepInto_86 : decode cX8_stepInto 86 = .ok (.goto 4, 3) := by decide +kernel
theorem dX8_stepInto_89 : decode cX8_stepInto 89 = .ok (.iconst 0, 1) := by decide +kernel
theorem dX8_stepInto_90 : decode cX8_stepInto 90 = .ok (.istore_n 3, 1) := by decide +kernel
theorem dX8_stepInto_91 : decode cX8_stepInto 91 = .ok (.iload_n 2, 1) := by decide +kernel
theorem dX8_stepInto_92 : decode cX8_stepInto 92 = .ok (.bipush 11, 2) := by decide +kernel
theorem dX8_stepInto_94 : decode cX8_stepInto 94 = .ok (.if_icmp .ne 13, 3) := by decide +kernel
theorem dX8_stepInto_97 : decode cX8_stepInto 97 = .ok (.aload_n 0, 1) := by decide +kernel
theorem dX8_stepInto_98 : decode cX8_stepInto 98 = .ok (.getfield 60, 3) := by decide +kernel
theorem dX8_stepInto_101 : decode cX8_stepInto 101 = .ok (.invokestatic 195, 3) := by decide +kernel
theorem dX8_stepInto_104 : decode cX8_stepInto 104 = .ok (.goto 4, 3) := by decide +kernel
theorem dX8_stepInto_107 : decode cX8_stepInto 107 = .ok (.aconst_null, 1) := by decide +kernel
theorem dX8_stepInto_108 : decode cX8_stepInto 108 = .ok (.astore 4, 2) := by decide +kernel
theorem dX8_stepInto_110 : decode cX8_stepInto 110 = .ok (.aload_n 0, 1) := by decide +kernel
theorem dX8_stepInto_111 : decode cX8_stepInto 111 = .ok (.getfield 24, 3) := by decide +kernel
theorem dX8_stepInto_114 : decode cX8_stepInto 114 = .ok (.new 104, 3) := by decide +kernel
theorem dX8_stepInto_117 : decode cX8_stepInto 117 = .ok (.dup, 1) := by decide +kernel
theorem dX8_stepInto_118 : decode cX8_stepInto 118 = .ok (.iload_n 2, 1) := by decide +kernel
theorem dX8_stepInto_119 : decode cX8_stepInto 119 = .ok (.aload_n 1, 1) := by decide +kernel
theorem dX8_stepInto_120 : decode cX8_stepInto 120 = .ok (.aload_n 0, 1) := by decide +kernel
theorem dX8_stepInto_121 : decode cX8_stepInto 121 = .ok (.getfield 60, 3) := by decide +kernel
theorem dX8_stepInto_124 : decode cX8_stepInto 124 = .ok (.iload_n 3, 1) := by decide +kernel
theorem dX8_stepInto_125 : decode cX8_stepInto 125 = .ok (.aload 4, 2) := by decide +kernel
theorem dX8_stepInto_127 : decode cX8_stepInto 127 = .ok (.invokespecial 169, 3) := by decide +kernel
theorem dX8_stepInto_130 : decode cX8_stepInto 130 = .ok (.invokevirtual 172, 3) := by decide +kernel
theorem dX8_stepInto_133 : decode cX8_stepInto 133 = .ok (.aload_n 0, 1) := by decide +kernel
theorem dX8_stepInto_134 : decode cX8_stepInto 134 = .ok (.aload_n 1, 1) := by decide +kernel
theorem dX8_stepInto_135 : decode cX8_stepInto 135 = .ok (.getfield 199, 3) := by decide +kernel
theorem dX8_stepInto_138 : decode cX8_stepInto 138 = .ok (.aload_n 0, 1) := by decide +kernel
theorem dX8_stepInto_139 : decode cX8_stepInto 139 = .ok (.getfield 60, 3) := by decide +kernel
theorem dX8_stepInto_142 : decode cX8_stepInto 142 = .ok (.invokevirtual 89, 3) := by decide +kernel
theorem dX8_stepInto_145 : decode cX8_stepInto 145 = .ok (.iconst 1, 1) := by decide +kernel
theorem dX8_stepInto_146 : decode cX8_stepInto 146 = .ok (.ireturn, 1) := by decide +kernel
theorem dX8_stepOut_0 : decode cX8_stepOut 0 = .ok (.aload_n 1, 1) := by decide +kernel
theorem dX8_stepOut_1 : decode cX8_stepOut 1 = .ok (.ifnonnull 5, 3) := by decide +kernel
theorem dX8_stepOut_4 : decode cX8_stepOut 4 = .ok (.iconst 0, 1) := by decide +kernel
theorem dX8_stepOut_5 : decode cX8_stepOut 5 = .ok (.ireturn, 1) := by decide +kernel
theorem dX8_stepOut_6 : decode cX8_stepOut 6 = .ok (.aload_n 1, 1) := by decide +kernel
theorem dX8_stepOut_7 : decode cX8_stepOut 7 = .ok (.getfield 103, 3) := by decide +kernel
theorem dX8_stepOut_10 : decode cX8_stepOut 10 = .ok (.tableswitch 98 7 14 #[78, 98, 98, 98, 46, 98, 61, 55], 46) := by decide +kernel
theorem dX8_stepOut_56 : decode cX8_stepOut 56 = .ok (.aload_n 0, 1) := by decide +kernel
theorem dX8_stepOut_57 : decode cX8_stepOut 57 = .ok (.aload_n 1, 1) := by decide +kernel
theorem dX8_stepOut_58 : decode cX8_stepOut 58 = .ok (.getfield 123, 3) := by decide +kernel
theorem dX8_stepOut_61 : decode cX8_stepOut 61 = .ok (.invokevirtual 202, 3) := by decide +kernel
theorem dX8_stepOut_64 : decode cX8_stepOut 64 = .ok (.ireturn, 1) := by decide +kernel
theorem dX8_stepOut_65 : decode cX8_stepOut 65 = .ok (.aload_n 0, 1) := by decide +kernel
theorem dX8_stepOut_66 : decode cX8_stepOut 66 = .ok (.aload_n 1, 1) := by decide +kernel
theorem dX8_stepOut_67 : decode cX8_stepOut 67 = .ok (.invokevirtual 206, 3) := by decide +kernel
theorem dX8_stepOut_70 : decode cX8_stepOut 70 = .ok (.ireturn, 1) := by decide +kernel
theorem dX8_stepOut_71 : decode cX8_stepOut 71 = .ok (.aload_n 0, 1) := by decide +kernel
theorem dX8_stepOut_72 : decode cX8_stepOut 72 = .ok (.getfield 24, 3) := by decide +kernel
theorem dX8_stepOut_75 : decode cX8_stepOut 75 = .ok (.invokevirtual 209, 3) := by decide +kernel
theorem dX8_stepOut_78 : decode cX8_stepOut 78 = .ok (.aload_n 0, 1) := by decide +kernel
theorem dX8_stepOut_79 : decode cX8_stepOut 79 = .ok (.aload_n 1, 1) := by decide +kernel
theorem dX8_stepOut_80 : decode cX8_stepOut 80 = .ok (.getfield 116, 3) := by decide +kernel
theorem dX8_stepOut_83 : decode cX8_stepOut 83 = .ok (.putfield 64, 3) := by decide +kernel
theorem dX8_stepOut_86 : decode cX8_stepOut 86 = .ok (.iconst 1, 1) := by decide +kernel
theorem dX8_stepOut_87 : decode cX8_stepOut 87 = .ok (.ireturn, 1) := by decide +kernel
theorem dX8_stepOut_88 : decode cX8_stepOut 88 = .ok (.aload_n 0, 1) := by decide +kernel
theorem dX8_stepOut_89 : decode cX8_stepOut 89 = .ok (.getfield 24, 3) := by decide +kernel
theorem dX8_stepOut_92 : decode cX8_stepOut 92 = .ok (.invokevirtual 209, 3) := by decide +kernel
theorem dX8_stepOut_95 : decode cX8_stepOut 95 = .ok (.aload_n 0, 1) := by decide +kernel
theorem dX8_stepOut_96 : decode cX8_stepOut 96 = .ok (.aload_n 1, 1) := by decide +kernel
theorem dX8_stepOut_97 : decode cX8_stepOut 97 = .ok (.getfield 108, 3) := by decide +kernel
theorem dX8_stepOut_100 : decode cX8_stepOut 100 = .ok (.getfield 111, 3) := by decide +kernel
theorem dX8_stepOut_103 : decode cX8_stepOut 103 = .ok (.invokevirtual 212, 3) := by decide +kernel
theorem dX8_stepOut_106 : decode cX8_stepOut 106 = .ok (.iconst 1, 1) := by decide +kernel
theorem dX8_stepOut_107 : decode cX8_stepOut 107 = .ok (.ireturn, 1) := by decide +kernel
theorem dX8_stepOut_108 : decode cX8_stepOut 108 = .ok (.aload_n 0, 1) := by decide +kernel
theorem dX8_stepOut_109 : decode cX8_stepOut 109 = .ok (.getfield 24, 3) := by decide +kernel
theorem dX8_stepOut_112 : decode cX8_stepOut 112 = .ok (.invokevirtual 209, 3) := by decide +kernel
theorem dX8_stepOut_115 : decode cX8_stepOut 115 = .ok (.aload_n 0, 1) := by decide +kernel
theorem dX8_stepOut_116 : decode cX8_stepOut 116 = .ok (.aload_n 1, 1) := by decide +kernel
theorem dX8_stepOut_117 : decode cX8_stepOut 117 = .ok (.aload_n 1, 1) := by decide +kernel
theorem dX8_stepOut_118 : decode cX8_stepOut 118 = .ok (.getfield 108, 3) := by decide +kernel
theorem dX8_stepOut_121 : decode cX8_stepOut 121 = .ok (.invokevirtual 216, 3) := by decide +kernel
theorem dX8_stepOut_124 : decode cX8_stepOut 124 = .ok (.iconst 1, 1) := by decide +kernel
theorem dX8_stepOut_125 : decode cX8_stepOut 125 = .ok (.ireturn, 1) := by decide +kernel
theorem dX8_goOnAt_0 : decode cX8_goOnAt 0 = .ok (.aload_n 1, 1) := by decide +kernel
theorem dX8_goOnAt_1 : decode cX8_goOnAt 1 = .ok (.getfield 103, 3) := by decide +kernel
theorem dX8_goOnAt_4 : decode cX8_goOnAt 4 = .ok (.tableswitch 259 1 12 #[64, 104, 126, 155, 170, 207, 259, 259, 214, 236, 259, 247], 64) := by decide +kernel
theorem dX8_goOnAt_68 : decode cX8_goOnAt 68 = .ok (.aload_n 0, 1) := by decide +kernel
theorem dX8_goOnAt_69 : decode cX8_goOnAt 69 = .ok (.getfield 24, 3) := by decide +kernel
theorem dX8_goOnAt_72 : decode cX8_goOnAt 72 = .ok (.new 104, 3) := by decide +kernel
theorem dX8_goOnAt_75 : decode cX8_goOnAt 75 = .ok (.dup, 1) := by decide +kernel
theorem dX8_goOnAt_76 : decode cX8_goOnAt 76 = .ok (.iconst 2, 1) := by decide +kernel
theorem dX8_goOnAt_77 : decode cX8_goOnAt 77 = .ok (.aload_n 2, 1) := by decide +kernel
theorem dX8_goOnAt_78 : decode cX8_goOnAt 78 = .ok (.aload_n 1, 1) := by decide +kernel
theorem dX8_goOnAt_79 : decode cX8_goOnAt 79 = .ok (.getfield 220, 3) := by decide +kernel
theorem dX8_goOnAt_82 : decode cX8_goOnAt 82 = .ok (.aload_n 0, 1) := by decide +kernel
theorem dX8_goOnAt_83 : decode cX8_goOnAt 83 = .ok (.getfield 64, 3) := by decide +kernel
theorem dX8_goOnAt_86 : decode cX8_goOnAt 86 = .ok (.aconst_null, 1) := by decide +kernel
theorem dX8_goOnAt_87 : decode cX8_goOnAt 87 = .ok (.invokespecial 169, 3) := by decide +kernel
theorem dX8_goOnAt_90 : decode cX8_goOnAt 90 = .ok (.invokevirtual 172, 3) := by decide +kernel
theorem dX8_goOnAt_93 : decode cX8_goOnAt 93 = .ok (.aload_n 0, 1) := by decide +kernel
theorem dX8_goOnAt_94 : decode cX8_goOnAt 94 = .ok (.aload_n 2, 1) := by decide +kernel
theorem dX8_goOnAt_95 : decode cX8_goOnAt 95 = .ok (.getfield 221, 3) := by decide +kernel
theorem dX8_goOnAt_98 : decode cX8_goOnAt 98 = .ok (.aload_n 1, 1) := by decide +kernel
theorem dX8_goOnAt_99 : decode cX8_goOnAt 99 = .ok (.getfield 220, 3) := by decide +kernel
theorem dX8_goOnAt_102 : decode cX8_goOnAt 102 = .ok (.invokevirtual 89, 3) := by decide +kernel
theorem dX8_goOnAt_105 : decode cX8_goOnAt 105 = .ok (.goto 158, 3) := by decide +kernel
theorem dX8_goOnAt_108 : decode cX8_goOnAt 108 = .ok (.aload_n 0, 1) := by decide +kernel
theorem dX8_goOnAt_109 : decode cX8_goOnAt 109 = .ok (.aload_n 2, 1) := by decide +kernel
theorem dX8_goOnAt_110 : decode cX8_goOnAt 110 = .ok (.getfield 176, 3) := by decide +kernel
theorem dX8_goOnAt_113 : decode cX8_goOnAt 113 = .ok (.aload_n 1, 1) := by decide +kernel
theorem dX8_goOnAt_114 : decode cX8_goOnAt 114 = .ok (.getfield 116, 3) := by decide +kernel
theorem dX8_goOnAt_117 : decode cX8_goOnAt 117 = .ok (.aload_n 0, 1) := by decide +kernel
theorem dX8_goOnAt_118 : decode cX8_goOnAt 118 = .ok (.getfield 64, 3) := by decide +kernel
theorem dX8_goOnAt_121 : decode cX8_goOnAt 121 = .ok (.invokestatic 224, 3) := by decide +kernel
theorem dX8_goOnAt_124 : decode cX8_goOnAt 124 = .ok (.putfield 64, 3) := by decide +kernel
theorem dX8_goOnAt_127 : decode cX8_goOnAt 127 = .ok (.goto 136, 3) := by decide +kernel
theorem dX8_goOnAt_130 : decode cX8_goOnAt 130 = .ok (.aload_n 0, 1) := by decide +kernel
theorem dX8_goOnAt_131 : decode cX8_goOnAt 131 = .ok (.aload_n 0, 1) := by decide +kernel
theorem dX8_goOnAt_132 : decode cX8_goOnAt 132 = .ok (.getfield 64, 3) := by decide +kernel
theorem dX8_goOnAt_135 : decode cX8_goOnAt 135 = .ok (.ifCond .eq 10, 3) := by decide +kernel
theorem dX8_goOnAt_138 : decode cX8_goOnAt 138 = .ok (.aload_n 2, 1) := by decide +kernel
theorem dX8_goOnAt_139 : decode cX8_goOnAt 139 = .ok (.getfield 221, 3) := by decide +kernel
theorem dX8_goOnAt_142 : decode cX8_goOnAt 142 = .ok (.goto 7, 3) := by decide +kernel
theorem dX8_goOnAt_145 : decode cX8_goOnAt 145 = .ok (.aload_n 2, 1) := by decide +kernel
theorem dX8_goOnAt_146 : decode cX8_goOnAt 146 = .ok (.getfield 228, 3) := by decide +kernel
theorem dX8_goOnAt_149 : decode cX8_goOnAt 149 = .ok (.aload_n 1, 1) := by decide +kernel
theorem dX8_goOnAt_150 : decode cX8_goOnAt 150 = .ok (.getfield 220, 3) := by decide +kernel
theorem dX8_goOnAt_153 : decode cX8_goOnAt 153 = .ok (.invokevirtual 89, 3) := by decide +kernel
theorem dX8_goOnAt_156 : decode cX8_goOnAt 156 = .ok (.goto 107, 3) := by decide +kernel
theorem dX8_goOnAt_159 : decode cX8_goOnAt 159 = .ok (.aload_n 0, 1) := by decide +kernel
theorem dX8_goOnAt_160 : decode cX8_goOnAt 160 = .ok (.aload_n 2, 1) := by decide +kernel
theorem dX8_goOnAt_161 : decode cX8_goOnAt 161 = .ok (.getfield 221, 3) := by decide +kernel
theorem dX8_goOnAt_164 : decode cX8_goOnAt 164 = .ok (.aload_n 1, 1) := by decide +kernel
theorem dX8_goOnAt_165 : decode cX8_goOnAt 165 = .ok (.getfield 220, 3) := by decide +kernel
theorem dX8_goOnAt_168 : decode cX8_goOnAt 168 = .ok (.invokevirtual 89, 3) := by decide +kernel
theorem dX8_goOnAt_171 : decode cX8_goOnAt 171 = .ok (.goto 92, 3) := by decide +kernel
theorem dX8_goOnAt_174 : decode cX8_goOnAt 174 = .ok (.aload_n 0, 1) := by decide +kernel
theorem dX8_goOnAt_175 : decode cX8_goOnAt 175 = .ok (.aload_n 2, 1) := by decide +kernel
theorem dX8_goOnAt_176 : decode cX8_goOnAt 176 = .ok (.getfield 221, 3) := by decide +kernel
theorem dX8_goOnAt_179 : decode cX8_goOnAt 179 = .ok (.new 180, 3) := by decide +kernel
theorem dX8_goOnAt_182 : decode cX8_goOnAt 182 = .ok (.dup, 1) := by decide +kernel
theorem dX8_goOnAt_183 : decode cX8_goOnAt 183 = .ok (.aload_n 2, 1) := by decide +kernel
theorem dX8_goOnAt_184 : decode cX8_goOnAt 184 = .ok (.getfield 111, 3) := by decide +kernel
theorem dX8_goOnAt_187 : decode cX8_goOnAt 187 = .ok (.aload_n 0, 1) := by decide +kernel
theorem dX8_goOnAt_188 : decode cX8_goOnAt 188 = .ok (.getfield 64, 3) := by decide +kernel
theorem dX8_goOnAt_191 : decode cX8_goOnAt 191 = .ok (.aload_n 1, 1) := by decide +kernel
theorem dX8_goOnAt_192 : decode cX8_goOnAt 192 = .ok (.getfield 220, 3) := by decide +kernel
theorem dX8_goOnAt_195 : decode cX8_goOnAt 195 = .ok (.invokestatic 195, 3) := by decide +kernel
theorem dX8_goOnAt_198 : decode cX8_goOnAt 198 = .ok (.aload_n 1, 1) := by decide +kernel
theorem dX8_goOnAt_199 : decode cX8_goOnAt 199 = .ok (.getfield 220, 3) := by decide +kernel
theorem dX8_goOnAt_202 : decode cX8_goOnAt 202 = .ok (.invokespecial 231, 3) := by decide +kernel
theorem dX8_goOnAt_205 : decode cX8_goOnAt 205 = .ok (.invokevirtual 89, 3) := by decide +kernel
theorem dX8_goOnAt_208 : decode cX8_goOnAt 208 = .ok (.goto 55, 3) := by decide +kernel
theorem dX8_goOnAt_211 : decode cX8_goOnAt 211 = .ok (.aload_n 0, 1) := by decide +kernel
theorem dX8_goOnAt_212 : decode cX8_goOnAt 212 = .ok (.invokevirtual 234, 3) := by decide +kernel
theorem dX8_goOnAt_215 : decode cX8_goOnAt 215 = .ok (.goto 48, 3) := by decide +kernel
theorem dX8_goOnAt_218 : decode cX8_goOnAt 218 = .ok (.aload_n 0, 1) := by decide +kernel
theorem dX8_goOnAt_219 : decode cX8_goOnAt 219 = .ok (.getfield 31, 3) := by decide +kernel
theorem dX8_goOnAt_222 : decode cX8_goOnAt 222 = .ok (.aload_n 1, 1) := by decide +kernel
theorem dX8_goOnAt_223 : decode cX8_goOnAt 223 = .ok (.getfield 116, 3) := by decide +kernel
theorem dX8_goOnAt_226 : decode cX8_goOnAt 226 = .ok (.invokevirtual 131, 3) := by decide +kernel
theorem dX8_goOnAt_229 : decode cX8_goOnAt 229 = .ok (.ifCond .ne 34, 3) := by decide +kernel
theorem dX8_goOnAt_232 : decode cX8_goOnAt 232 = .ok (.aload_n 0, 1) := by decide +kernel
theorem dX8_goOnAt_233 : decode cX8_goOnAt 233 = .ok (.aload_n 1, 1) := by decide +kernel
theorem dX8_goOnAt_234 : decode cX8_goOnAt 234 = .ok (.invokevirtual 237, 3) := by decide +kernel
theorem dX8_goOnAt_237 : decode cX8_goOnAt 237 = .ok (.goto 26, 3) := by decide +kernel
theorem dX8_goOnAt_240 : decode cX8_goOnAt 240 = .ok (.aload_n 0, 1) := by decide +kernel
theorem dX8_goOnAt_241 : decode cX8_goOnAt 241 = .ok (.aload_n 2, 1) := by decide +kernel
theorem dX8_goOnAt_242 : decode cX8_goOnAt 242 = .ok (.getfield 111, 3) := by decide +kernel
theorem dX8_goOnAt_245 : decode cX8_goOnAt 245 = .ok (.invokevirtual 240, 3) := by decide +kernel
theorem dX8_goOnAt_248 : decode cX8_goOnAt 248 = .ok (.goto 15, 3) := by decide +kernel
theorem dX8_goOnAt_251 : decode cX8_goOnAt 251 = .ok (.aload_n 0, 1) := by decide +kernel
theorem dX8_goOnAt_252 : decode cX8_goOnAt 252 = .ok (.aload_n 2, 1) := by decide +kernel
theorem dX8_goOnAt_253 : decode cX8_goOnAt 253 = .ok (.aload_n 1, 1) := by decide +kernel
theorem dX8_goOnAt_254 : decode cX8_goOnAt 254 = .ok (.getfield 220, 3) := by decide +kernel
theorem dX8_goOnAt_257 : decode cX8_goOnAt 257 = .ok (.invokevirtual 243, 3) := by decide +kernel
theorem dX8_goOnAt_260 : decode cX8_goOnAt 260 = .ok (.goto 3, 3) := by decide +kernel
theorem dX8_goOnAt_263 : decode cX8_goOnAt 263 = .ok (.return_, 1) := by decide +kernel
theorem dX8_resultOf_0 : decode cX8_resultOf 0 = .ok (.iload_n 0, 1) := by decide +kernel
theorem dX8_resultOf_1 : decode cX8_resultOf 1 = .ok (.tableswitch 43 42 45 #[39, 31, 43, 35], 31) := by decide +kernel
theorem dX8_resultOf_32 : decode cX8_resultOf 32 = .ok (.iload_n 1, 1) := by decide +kernel
theorem dX8_resultOf_33 : decode cX8_resultOf 33 = .ok (.iload_n 2, 1) := by decide +kernel
theorem dX8_resultOf_34 : decode cX8_resultOf 34 = .ok (.iadd, 1) := by decide +kernel
theorem dX8_resultOf_35 : decode cX8_resultOf 35 = .ok (.ireturn, 1) := by decide +kernel
theorem dX8_resultOf_36 : decode cX8_resultOf 36 = .ok (.iload_n 1, 1) := by decide +kernel
theorem dX8_resultOf_37 : decode cX8_resultOf 37 = .ok (.iload_n 2, 1) := by decide +kernel
theorem dX8_resultOf_38 : decode cX8_resultOf 38 = .ok (.isub, 1) := by decide +kernel
theorem dX8_resultOf_39 : decode cX8_resultOf 39 = .ok (.ireturn, 1) := by decide +kernel
theorem dX8_resultOf_40 : decode cX8_resultOf 40 = .ok (.iload_n 1, 1) := by decide +kernel
theorem dX8_resultOf_41 : decode cX8_resultOf 41 = .ok (.iload_n 2, 1) := by decide +kernel
theorem dX8_resultOf_42 : decode cX8_resultOf 42 = .ok (.imul, 1) := by decide +kernel
theorem dX8_resultOf_43 : decode cX8_resultOf 43 = .ok (.ireturn, 1) := by decide +kernel
theorem dX8_resultOf_44 : decode cX8_resultOf 44 = .ok (.iload_n 1, 1) := by decide +kernel
theorem dX8_resultOf_45 : decode cX8_resultOf 45 = .ok (.iload_n 2, 1) := by decide +kernel
theorem dX8_resultOf_46 : decode cX8_resultOf 46 = .ok (.if_icmp .ge 7, 3) := by decide +kernel
theorem dX8_resultOf_49 : decode cX8_resultOf 49 = .ok (.iconst 1, 1) := by decide +kernel
theorem dX8_resultOf_50 : decode cX8_resultOf 50 = .ok (.goto 4, 3) := by decide +kernel
theorem dX8_resultOf_53 : decode cX8_resultOf 53 = .ok (.iconst 0, 1) := by decide +kernel
theorem dX8_resultOf_54 : decode cX8_resultOf 54 = .ok (.ireturn, 1) := by decide +kernel
theorem dX8_emit_0 : decode cX8_emit 0 = .ok (.aload_n 0, 1) := by decide +kernel
theorem dX8_emit_1 : decode cX8_emit 1 = .ok (.getfield 83, 3) := by decide +kernel
theorem dX8_emit_4 : decode cX8_emit 4 = .ok (.bipush 60, 2) := by decide +kernel
theorem dX8_emit_6 : decode cX8_emit 6 = .ok (.if_icmp .ge 26, 3) := by decide +kernel
theorem dX8_emit_9 : decode cX8_emit 9 = .ok (.aload_n 0, 1) := by decide +kernel
theorem dX8_emit_10 : decode cX8_emit 10 = .ok (.getfield 35, 3) := by decide +kernel
theorem dX8_emit_13 : decode cX8_emit 13 = .ok (.aload_n 0, 1) := by decide +kernel
theorem dX8_emit_14 : decode cX8_emit 14 = .ok (.getfield 83, 3) := by decide +kernel
theorem dX8_emit_17 : decode cX8_emit 17 = .ok (.aload_n 0, 1) := by decide +kernel
theorem dX8_emit_18 : decode cX8_emit 18 = .ok (.getfield 64, 3) := by decide +kernel
theorem dX8_emit_21 : decode cX8_emit 21 = .ok (.iastore, 1) := by decide +kernel
theorem dX8_emit_22 : decode cX8_emit 22 = .ok (.aload_n 0, 1) := by decide +kernel
theorem dX8_emit_23 : decode cX8_emit 23 = .ok (.dup, 1) := by decide +kernel
theorem dX8_emit_24 : decode cX8_emit 24 = .ok (.getfield 83, 3) := by decide +kernel
theorem dX8_emit_27 : decode cX8_emit 27 = .ok (.iconst 1, 1) := by decide +kernel
theorem dX8_emit_28 : decode cX8_emit 28 = .ok (.iadd, 1) := by decide +kernel
theorem dX8_emit_29 : decode cX8_emit 29 = .ok (.putfield 83, 3) := by decide +kernel
theorem dX8_emit_32 : decode cX8_emit 32 = .ok (.return_, 1) := by decide +kernel
theorem dX8_perform_0 : decode cX8_perform 0 = .ok (.iload_n 1, 1) := by decide +kernel
theorem dX8_perform_1 : decode cX8_perform 1 = .ok (.invokestatic 246, 3) := by decide +kernel
theorem dX8_perform_4 : decode cX8_perform 4 = .ok (.ifCond .eq 13, 3) := by decide +kernel
theorem dX8_perform_7 : decode cX8_perform 7 = .ok (.aload_n 0, 1) := by decide +kernel
theorem dX8_perform_8 : decode cX8_perform 8 = .ok (.getfield 39, 3) := by decide +kernel
theorem dX8_perform_11 : decode cX8_perform 11 = .ok (.iload_n 1, 1) := by decide +kernel
theorem dX8_perform_12 : decode cX8_perform 12 = .ok (.dup2, 1) := by decide +kernel
theorem dX8_perform_13 : decode cX8_perform 13 = .ok (.iaload, 1) := by decide +kernel
theorem dX8_perform_14 : decode cX8_perform 14 = .ok (.iconst 1, 1) := by decide +kernel
theorem dX8_perform_15 : decode cX8_perform 15 = .ok (.iadd, 1) := by decide +kernel
theorem dX8_perform_16 : decode cX8_perform 16 = .ok (.iastore, 1) := by decide +kernel
theorem dX8_perform_17 : decode cX8_perform 17 = .ok (.aload_n 0, 1) := by decide +kernel
theorem dX8_perform_18 : decode cX8_perform 18 = .ok (.getfield 24, 3) := by decide +kernel
theorem dX8_perform_21 : decode cX8_perform 21 = .ok (.iload_n 1, 1) := by decide +kernel
theorem dX8_perform_22 : decode cX8_perform 22 = .ok (.invokevirtual 249, 3) := by decide +kernel
theorem dX8_perform_25 : decode cX8_perform 25 = .ok (.istore_n 2, 1) := by decide +kernel
theorem dX8_perform_26 : decode cX8_perform 26 = .ok (.iload_n 2, 1) := by decide +kernel
theorem dX8_perform_27 : decode cX8_perform 27 = .ok (.ifCond .ge 14, 3) := by decide +kernel
theorem dX8_perform_30 : decode cX8_perform 30 = .ok (.aload_n 0, 1) := by decide +kernel
theorem dX8_perform_31 : decode cX8_perform 31 = .ok (.iconst 3, 1) := by decide +kernel
theorem dX8_perform_32 : decode cX8_perform 32 = .ok (.putfield 17, 3) := by decide +kernel
theorem dX8_perform_35 : decode cX8_perform 35 = .ok (.aload_n 0, 1) := by decide +kernel
theorem dX8_perform_36 : decode cX8_perform 36 = .ok (.iload_n 1, 1) := by decide +kernel
theorem dX8_perform_37 : decode cX8_perform 37 = .ok (.putfield 67, 3) := by decide +kernel
theorem dX8_perform_40 : decode cX8_perform 40 = .ok (.return_, 1) := by decide +kernel
theorem dX8_perform_41 : decode cX8_perform 41 = .ok (.aload_n 0, 1) := by decide +kernel
theorem dX8_perform_42 : decode cX8_perform 42 = .ok (.getfield 24, 3) := by decide +kernel
theorem dX8_perform_45 : decode cX8_perform 45 = .ok (.getfield 252, 3) := by decide +kernel
theorem dX8_perform_48 : decode cX8_perform 48 = .ok (.iload_n 2, 1) := by decide +kernel
theorem dX8_perform_49 : decode cX8_perform 49 = .ok (.aaload, 1) := by decide +kernel
theorem dX8_perform_50 : decode cX8_perform 50 = .ok (.astore_n 3, 1) := by decide +kernel
theorem dX8_perform_51 : decode cX8_perform 51 = .ok (.aload_n 0, 1) := by decide +kernel
theorem dX8_perform_52 : decode cX8_perform 52 = .ok (.iload_n 2, 1) := by decide +kernel
theorem dX8_perform_53 : decode cX8_perform 53 = .ok (.invokevirtual 256, 3) := by decide +kernel
theorem dX8_perform_56 : decode cX8_perform 56 = .ok (.astore 4, 2) := by decide +kernel
theorem dX8_perform_58 : decode cX8_perform 58 = .ok (.aload_n 3, 1) := by decide +kernel
theorem dX8_perform_59 : decode cX8_perform 59 = .ok (.getfield 108, 3) := by decide +kernel
theorem dX8_perform_62 : decode cX8_perform 62 = .ok (.iload_n 1, 1) := by decide +kernel
theorem dX8_perform_63 : decode cX8_perform 63 = .ok (.invokevirtual 260, 3) := by decide +kernel
theorem dX8_perform_66 : decode cX8_perform 66 = .ok (.istore 5, 2) := by decide +kernel
theorem dX8_perform_68 : decode cX8_perform 68 = .ok (.aload_n 0, 1) := by decide +kernel
theorem dX8_perform_69 : decode cX8_perform 69 = .ok (.aload_n 3, 1) := by decide +kernel
theorem dX8_perform_70 : decode cX8_perform 70 = .ok (.getfield 108, 3) := by decide +kernel
theorem dX8_perform_73 : decode cX8_perform 73 = .ok (.iload_n 1, 1) := by decide +kernel
theorem dX8_perform_74 : decode cX8_perform 74 = .ok (.invokevirtual 263, 3) := by decide +kernel
theorem dX8_perform_77 : decode cX8_perform 77 = .ok (.new 180, 3) := by decide +kernel
theorem dX8_perform_80 : decode cX8_perform 80 = .ok (.dup, 1) := by decide +kernel
theorem dX8_perform_81 : decode cX8_perform 81 = .ok (.iload 5, 2) := by decide +kernel
theorem dX8_perform_83 : decode cX8_perform 83 = .ok (.aload_n 0, 1) := by decide +kernel
theorem dX8_perform_84 : decode cX8_perform 84 = .ok (.getfield 64, 3) := by decide +kernel
theorem dX8_perform_87 : decode cX8_perform 87 = .ok (.aload 4, 2) := by decide +kernel
theorem dX8_perform_89 : decode cX8_perform 89 = .ok (.aload_n 3, 1) := by decide +kernel
theorem dX8_perform_90 : decode cX8_perform 90 = .ok (.getfield 220, 3) := by decide +kernel
theorem dX8_perform_93 : decode cX8_perform 93 = .ok (.invokespecial 231, 3) := by decide +kernel
theorem dX8_perform_96 : decode cX8_perform 96 = .ok (.invokevirtual 89, 3) := by decide +kernel
theorem dX8_perform_99 : decode cX8_perform 99 = .ok (.return_, 1) := by decide +kernel
theorem dX8_call_0 : decode cX8_call 0 = .ok (.iload_n 1, 1) := by decide +kernel
theorem dX8_call_1 : decode cX8_call 1 = .ok (.invokestatic 267, 3) := by decide +kernel
theorem dX8_call_4 : decode cX8_call 4 = .ok (.ifCond .eq 40, 3) := by decide +kernel
theorem dX8_call_7 : decode cX8_call 7 = .ok (.aload_n 0, 1) := by decide +kernel
theorem dX8_call_8 : decode cX8_call 8 = .ok (.getfield 11, 3) := by decide +kernel
theorem dX8_call_11 : decode cX8_call 11 = .ok (.iload_n 1, 1) := by decide +kernel
theorem dX8_call_12 : decode cX8_call 12 = .ok (.aaload, 1) := by decide +kernel
theorem dX8_call_13 : decode cX8_call 13 = .ok (.ifnull 31, 3) := by decide +kernel
theorem dX8_call_16 : decode cX8_call 16 = .ok (.aload_n 0, 1) := by decide +kernel
theorem dX8_call_17 : decode cX8_call 17 = .ok (.aload_n 0, 1) := by decide +kernel
theorem dX8_call_18 : decode cX8_call 18 = .ok (.getfield 11, 3) := by decide +kernel
theorem dX8_call_21 : decode cX8_call 21 = .ok (.iload_n 1, 1) := by decide +kernel
theorem dX8_call_22 : decode cX8_call 22 = .ok (.aaload, 1) := by decide +kernel
theorem dX8_call_23 : decode cX8_call 23 = .ok (.getfield 86, 3) := by decide +kernel
theorem dX8_call_26 : decode cX8_call 26 = .ok (.new 180, 3) := by decide +kernel
theorem dX8_call_29 : decode cX8_call 29 = .ok (.dup, 1) := by decide +kernel
theorem dX8_call_30 : decode cX8_call 30 = .ok (.bipush 23, 2) := by decide +kernel
theorem dX8_call_32 : decode cX8_call 32 = .ok (.aload_n 0, 1) := by decide +kernel
theorem dX8_call_33 : decode cX8_call 33 = .ok (.getfield 64, 3) := by decide +kernel
theorem dX8_call_36 : decode cX8_call 36 = .ok (.aconst_null, 1) := by decide +kernel
theorem dX8_call_37 : decode cX8_call 37 = .ok (.aconst_null, 1) := by decide +kernel
theorem dX8_call_38 : decode cX8_call 38 = .ok (.invokespecial 231, 3) := by decide +kernel
theorem dX8_call_41 : decode cX8_call 41 = .ok (.invokevirtual 89, 3) := by decide +kernel
theorem dX8_call_44 : decode cX8_call 44 = .ok (.return_, 1) := by decide +kernel
theorem dX8_leaveHandler_0 : decode cX8_leaveHandler 0 = .ok (.aload_n 1, 1) := by decide +kernel
theorem dX8_leaveHandler_1 : decode cX8_leaveHandler 1 = .ok (.bipush 6, 2) := by decide +kernel
theorem dX8_leaveHandler_3 : decode cX8_leaveHandler 3 = .ok (.invokevirtual 263, 3) := by decide +kernel
theorem dX8_leaveHandler_6 : decode cX8_leaveHandler 6 = .ok (.ifnull 37, 3) := by decide +kernel
theorem dX8_leaveHandler_9 : decode cX8_leaveHandler 9 = .ok (.aload_n 1, 1) := by decide +kernel
theorem dX8_leaveHandler_10 : decode cX8_leaveHandler 10 = .ok (.bipush 6, 2) := by decide +kernel
theorem dX8_leaveHandler_12 : decode cX8_leaveHandler 12 = .ok (.invokevirtual 260, 3) := by decide +kernel
theorem dX8_leaveHandler_15 : decode cX8_leaveHandler 15 = .ok (.istore_n 3, 1) := by decide +kernel
theorem dX8_leaveHandler_16 : decode cX8_leaveHandler 16 = .ok (.aload_n 0, 1) := by decide +kernel
theorem dX8_leaveHandler_17 : decode cX8_leaveHandler 17 = .ok (.aload_n 1, 1) := by decide +kernel
theorem dX8_leaveHandler_18 : decode cX8_leaveHandler 18 = .ok (.bipush 6, 2) := by decide +kernel
theorem dX8_leaveHandler_20 : decode cX8_leaveHandler 20 = .ok (.invokevirtual 263, 3) := by decide +kernel
theorem dX8_leaveHandler_23 : decode cX8_leaveHandler 23 = .ok (.new 180, 3) := by decide +kernel
theorem dX8_leaveHandler_26 : decode cX8_leaveHandler 26 = .ok (.dup, 1) := by decide +kernel
theorem dX8_leaveHandler_27 : decode cX8_leaveHandler 27 = .ok (.iload_n 3, 1) := by decide +kernel
theorem dX8_leaveHandler_28 : decode cX8_leaveHandler 28 = .ok (.aload_n 0, 1) := by decide +kernel
theorem dX8_leaveHandler_29 : decode cX8_leaveHandler 29 = .ok (.getfield 64, 3) := by decide +kernel
theorem dX8_leaveHandler_32 : decode cX8_leaveHandler 32 = .ok (.aload_n 2, 1) := by decide +kernel
theorem dX8_leaveHandler_33 : decode cX8_leaveHandler 33 = .ok (.invokestatic 195, 3) := by decide +kernel
theorem dX8_leaveHandler_36 : decode cX8_leaveHandler 36 = .ok (.aload_n 2, 1) := by decide +kernel
theorem dX8_leaveHandler_37 : decode cX8_leaveHandler 37 = .ok (.invokespecial 231, 3) := by decide +kernel
theorem dX8_leaveHandler_40 : decode cX8_leaveHandler 40 = .ok (.invokevirtual 89, 3) := by decide +kernel
theorem dX8_leaveHandler_43 : decode cX8_leaveHandler 43 = .ok (.return_, 1) := by decide +kernel
theorem dX8_resume_0 : decode cX8_resume 0 = .ok (.aload_n 1, 1) := by decide +kernel
theorem dX8_resume_1 : decode cX8_resume 1 = .ok (.ifnull 20, 3) := by decide +kernel
theorem dX8_resume_4 : decode cX8_resume 4 = .ok (.aload_n 0, 1) := by decide +kernel
theorem dX8_resume_5 : decode cX8_resume 5 = .ok (.getfield 24, 3) := by decide +kernel
theorem dX8_resume_8 : decode cX8_resume 8 = .ok (.aload_n 1, 1) := by decide +kernel
theorem dX8_resume_9 : decode cX8_resume 9 = .ok (.getfield 270, 3) := by decide +kernel
theorem dX8_resume_12 : decode cX8_resume 12 = .ok (.arraylength, 1) := by decide +kernel
theorem dX8_resume_13 : decode cX8_resume 13 = .ok (.iconst 1, 1) := by decide +kernel
theorem dX8_resume_14 : decode cX8_resume 14 = .ok (.isub, 1) := by decide +kernel
theorem dX8_resume_15 : decode cX8_resume 15 = .ok (.invokevirtual 185, 3) := by decide +kernel
theorem dX8_resume_18 : decode cX8_resume 18 = .ok (.ifCond .ne 5, 3) := by decide +kernel
theorem dX8_resume_21 : decode cX8_resume 21 = .ok (.iconst 0, 1) := by decide +kernel
theorem dX8_resume_22 : decode cX8_resume 22 = .ok (.ireturn, 1) := by decide +kernel
theorem dX8_resume_23 : decode cX8_resume 23 = .ok (.aload_n 0, 1) := by decide +kernel
theorem dX8_resume_24 : decode cX8_resume 24 = .ok (.getfield 24, 3) := by decide +kernel
theorem dX8_resume_27 : decode cX8_resume 27 = .ok (.invokevirtual 209, 3) := by decide +kernel
theorem dX8_resume_30 : decode cX8_resume 30 = .ok (.aload_n 0, 1) := by decide +kernel
theorem dX8_resume_31 : decode cX8_resume 31 = .ok (.getfield 31, 3) := by decide +kernel
theorem dX8_resume_34 : decode cX8_resume 34 = .ok (.aload_n 1, 1) := by decide +kernel
theorem dX8_resume_35 : decode cX8_resume 35 = .ok (.invokevirtual 275, 3) := by decide +kernel
theorem dX8_resume_38 : decode cX8_resume 38 = .ok (.iconst 0, 1) := by decide +kernel
theorem dX8_resume_39 : decode cX8_resume 39 = .ok (.istore_n 2, 1) := by decide +kernel
theorem dX8_resume_40 : decode cX8_resume 40 = .ok (.iload_n 2, 1) := by decide +kernel
theorem dX8_resume_41 : decode cX8_resume 41 = .ok (.aload_n 1, 1) := by decide +kernel
theorem dX8_resume_42 : decode cX8_resume 42 = .ok (.getfield 270, 3) := by decide +kernel
theorem dX8_resume_45 : decode cX8_resume 45 = .ok (.arraylength, 1) := by decide +kernel
theorem dX8_resume_46 : decode cX8_resume 46 = .ok (.if_icmp .ge 22, 3) := by decide +kernel
theorem dX8_resume_49 : decode cX8_resume 49 = .ok (.aload_n 0, 1) := by decide +kernel
theorem dX8_resume_50 : decode cX8_resume 50 = .ok (.getfield 24, 3) := by decide +kernel
theorem dX8_resume_53 : decode cX8_resume 53 = .ok (.aload_n 1, 1) := by decide +kernel
theorem dX8_resume_54 : decode cX8_resume 54 = .ok (.getfield 270, 3) := by decide +kernel
theorem dX8_resume_57 : decode cX8_resume 57 = .ok (.iload_n 2, 1) := by decide +kernel
theorem dX8_resume_58 : decode cX8_resume 58 = .ok (.aaload, 1) := by decide +kernel
theorem dX8_resume_59 : decode cX8_resume 59 = .ok (.invokevirtual 172, 3) := by decide +kernel
theorem dX8_resume_62 : decode cX8_resume 62 = .ok (.iinc 2 1, 3) := by decide +kernel
theorem dX8_resume_65 : decode cX8_resume 65 = .ok (.goto (-25), 3) := by decide +kernel
theorem dX8_resume_68 : decode cX8_resume 68 = .ok (.iconst 1, 1) := by decide +kernel
theorem dX8_resume_69 : decode cX8_resume 69 = .ok (.ireturn, 1) := by decide +kernel
theorem dX8_leaveClause_0 : decode cX8_leaveClause 0 = .ok (.aload_n 0, 1) := by decide +kernel
theorem dX8_leaveClause_1 : decode cX8_leaveClause 1 = .ok (.getfield 45, 3) := by decide +kernel
theorem dX8_leaveClause_4 : decode cX8_leaveClause 4 = .ok (.aload_n 1, 1) := by decide +kernel
theorem dX8_leaveClause_5 : decode cX8_leaveClause 5 = .ok (.getfield 123, 3) := by decide +kernel
theorem dX8_leaveClause_8 : decode cX8_leaveClause 8 = .ok (.aload_n 0, 1) := by decide +kernel
theorem dX8_leaveClause_9 : decode cX8_leaveClause 9 = .ok (.getfield 31, 3) := by decide +kernel
theorem dX8_leaveClause_12 : decode cX8_leaveClause 12 = .ok (.invokevirtual 279, 3) := by decide +kernel
theorem dX8_leaveClause_15 : decode cX8_leaveClause 15 = .ok (.astore_n 2, 1) := by decide +kernel
theorem dX8_leaveClause_16 : decode cX8_leaveClause 16 = .ok (.aload_n 2, 1) := by decide +kernel
theorem dX8_leaveClause_17 : decode cX8_leaveClause 17 = .ok (.ifnonnull 12, 3) := by decide +kernel
theorem dX8_leaveClause_20 : decode cX8_leaveClause 20 = .ok (.aload_n 0, 1) := by decide +kernel
theorem dX8_leaveClause_21 : decode cX8_leaveClause 21 = .ok (.getfield 24, 3) := by decide +kernel
theorem dX8_leaveClause_24 : decode cX8_leaveClause 24 = .ok (.invokevirtual 209, 3) := by decide +kernel
theorem dX8_leaveClause_27 : decode cX8_leaveClause 27 = .ok (.iconst 1, 1) := by decide +kernel
theorem dX8_leaveClause_28 : decode cX8_leaveClause 28 = .ok (.ireturn, 1) := by decide +kernel
theorem dX8_leaveClause_29 : decode cX8_leaveClause 29 = .ok (.aload_n 0, 1) := by decide +kernel
theorem dX8_leaveClause_30 : decode cX8_leaveClause 30 = .ok (.getfield 24, 3) := by decide +kernel
theorem dX8_leaveClause_33 : decode cX8_leaveClause 33 = .ok (.iconst 1, 1) := by decide +kernel
theorem dX8_leaveClause_34 : decode cX8_leaveClause 34 = .ok (.invokevirtual 185, 3) := by decide +kernel
theorem dX8_leaveClause_37 : decode cX8_leaveClause 37 = .ok (.ifCond .ne 5, 3) := by decide +kernel
theorem dX8_leaveClause_40 : decode cX8_leaveClause 40 = .ok (.iconst 0, 1) := by decide +kernel
theorem dX8_leaveClause_41 : decode cX8_leaveClause 41 = .ok (.ireturn, 1) := by decide +kernel
theorem dX8_leaveClause_42 : decode cX8_leaveClause 42 = .ok (.aload_n 0, 1) := by decide +kernel
theorem dX8_leaveClause_43 : decode cX8_leaveClause 43 = .ok (.aload_n 2, 1) := by decide +kernel
theorem dX8_leaveClause_44 : decode cX8_leaveClause 44 = .ok (.invokevirtual 237, 3) := by decide +kernel
theorem dX8_leaveClause_47 : decode cX8_leaveClause 47 = .ok (.iconst 1, 1) := by decide +kernel
theorem dX8_leaveClause_48 : decode cX8_leaveClause 48 = .ok (.ireturn, 1) := by decide +kernel
theorem dX8_execute_0 : decode cX8_execute 0 = .ok (.aload_n 0, 1) := by decide +kernel
theorem dX8_execute_1 : decode cX8_execute 1 = .ok (.getfield 31, 3) := by decide +kernel
theorem dX8_execute_4 : decode cX8_execute 4 = .ok (.aload_n 1, 1) := by decide +kernel
theorem dX8_execute_5 : decode cX8_execute 5 = .ok (.getfield 116, 3) := by decide +kernel
theorem dX8_execute_8 : decode cX8_execute 8 = .ok (.invokevirtual 282, 3) := by decide +kernel
theorem dX8_execute_11 : decode cX8_execute 11 = .ok (.aload_n 0, 1) := by decide +kernel
theorem dX8_execute_12 : decode cX8_execute 12 = .ok (.getfield 24, 3) := by decide +kernel
theorem dX8_execute_15 : decode cX8_execute 15 = .ok (.new 104, 3) := by decide +kernel
theorem dX8_execute_18 : decode cX8_execute 18 = .ok (.dup, 1) := by decide +kernel
theorem dX8_execute_19 : decode cX8_execute 19 = .ok (.bipush 13, 2) := by decide +kernel
theorem dX8_execute_21 : decode cX8_execute 21 = .ok (.aconst_null, 1) := by decide +kernel
theorem dX8_execute_22 : decode cX8_execute 22 = .ok (.aconst_null, 1) := by decide +kernel
theorem dX8_execute_23 : decode cX8_execute 23 = .ok (.aload_n 0, 1) := by decide +kernel
theorem dX8_execute_24 : decode cX8_execute 24 = .ok (.getfield 64, 3) := by decide +kernel
theorem dX8_execute_27 : decode cX8_execute 27 = .ok (.aconst_null, 1) := by decide +kernel
theorem dX8_execute_28 : decode cX8_execute 28 = .ok (.invokespecial 169, 3) := by decide +kernel
theorem dX8_execute_31 : decode cX8_execute 31 = .ok (.invokevirtual 172, 3) := by decide +kernel
theorem dX8_execute_34 : decode cX8_execute 34 = .ok (.aload_n 0, 1) := by decide +kernel
theorem dX8_execute_35 : decode cX8_execute 35 = .ok (.aload_n 1, 1) := by decide +kernel
theorem dX8_execute_36 : decode cX8_execute 36 = .ok (.getfield 108, 3) := by decide +kernel
theorem dX8_execute_39 : decode cX8_execute 39 = .ok (.getfield 221, 3) := by decide +kernel
theorem dX8_execute_42 : decode cX8_execute 42 = .ok (.aload_n 1, 1) := by decide +kernel
theorem dX8_execute_43 : decode cX8_execute 43 = .ok (.getfield 220, 3) := by decide +kernel
theorem dX8_execute_46 : decode cX8_execute 46 = .ok (.invokevirtual 89, 3) := by decide +kernel
theorem dX8_execute_49 : decode cX8_execute 49 = .ok (.return_, 1) := by decide +kernel
theorem dX9_init_0 : decode cX9_init 0 = .ok (.aload_n 0, 1) := by decide +kernel
theorem dX9_init_1 : decode cX9_init 1 = .ok (.invokespecial 1, 3) := by decide +kernel
theorem dX9_init_4 : decode cX9_init 4 = .ok (.aload_n 0, 1) := by decide +kernel
theorem dX9_init_5 : decode cX9_init 5 = .ok (.iload_n 1, 1) := by decide +kernel
theorem dX9_init_6 : decode cX9_init 6 = .ok (.putfield 7, 3) := by decide +kernel
theorem dX9_init_9 : decode cX9_init 9 = .ok (.aload_n 0, 1) := by decide +kernel
theorem dX9_init_10 : decode cX9_init 10 = .ok (.iload_n 2, 1) := by decide +kernel
theorem dX9_init_11 : decode cX9_init 11 = .ok (.putfield 13, 3) := by decide +kernel
theorem dX9_init_14 : decode cX9_init 14 = .ok (.aload_n 0, 1) := by decide +kernel
theorem dX9_init_15 : decode cX9_init 15 = .ok (.aload_n 3, 1) := by decide +kernel
theorem dX9_init_16 : decode cX9_init 16 = .ok (.putfield 16, 3) := by decide +kernel
theorem dX9_init_19 : decode cX9_init 19 = .ok (.aload_n 0, 1) := by decide +kernel
theorem dX9_init_20 : decode cX9_init 20 = .ok (.aload 4, 2) := by decide +kernel
theorem dX9_init_22 : decode cX9_init 22 = .ok (.putfield 20, 3) := by decide +kernel
theorem dX9_init_25 : decode cX9_init 25 = .ok (.return_, 1) := by decide +kernel
theorem dX9_lookUp_0 : decode cX9_lookUp 0 = .ok (.aload_n 0, 1) := by decide +kernel
theorem dX9_lookUp_1 : decode cX9_lookUp 1 = .ok (.astore_n 2, 1) := by decide +kernel
theorem dX9_lookUp_2 : decode cX9_lookUp 2 = .ok (.aload_n 2, 1) := by decide +kernel
theorem dX9_lookUp_3 : decode cX9_lookUp 3 = .ok (.ifnull 24, 3) := by decide +kernel
theorem dX9_lookUp_6 : decode cX9_lookUp 6 = .ok (.aload_n 2, 1) := by decide +kernel
theorem dX9_lookUp_7 : decode cX9_lookUp 7 = .ok (.getfield 7, 3) := by decide +kernel
theorem dX9_lookUp_10 : decode cX9_lookUp 10 = .ok (.iload_n 1, 1) := by decide +kernel
theorem dX9_lookUp_11 : decode cX9_lookUp 11 = .ok (.if_icmp .ne 8, 3) := by decide +kernel
theorem dX9_lookUp_14 : decode cX9_lookUp 14 = .ok (.aload_n 2, 1) := by decide +kernel
theorem dX9_lookUp_15 : decode cX9_lookUp 15 = .ok (.getfield 13, 3) := by decide +kernel
theorem dX9_lookUp_18 : decode cX9_lookUp 18 = .ok (.ireturn, 1) := by decide +kernel
theorem dX9_lookUp_19 : decode cX9_lookUp 19 = .ok (.aload_n 2, 1) := by decide +kernel
theorem dX9_lookUp_20 : decode cX9_lookUp 20 = .ok (.getfield 20, 3) := by decide +kernel
theorem dX9_lookUp_23 : decode cX9_lookUp 23 = .ok (.astore_n 2, 1) := by decide +kernel
theorem dX9_lookUp_24 : decode cX9_lookUp 24 = .ok (.goto (-22), 3) := by decide +kernel
theorem dX9_lookUp_27 : decode cX9_lookUp 27 = .ok (.iconst 0, 1) := by decide +kernel
theorem dX9_lookUp_28 : decode cX9_lookUp 28 = .ok (.ireturn, 1) := by decide +kernel
theorem dX9_resumptionIn_0 : decode cX9_resumptionIn 0 = .ok (.aload_n 0, 1) := by decide +kernel
theorem dX9_resumptionIn_1 : decode cX9_resumptionIn 1 = .ok (.ifnonnull 7, 3) := by decide +kernel
theorem dX9_resumptionIn_4 : decode cX9_resumptionIn 4 = .ok (.aconst_null, 1) := by decide +kernel
theorem dX9_resumptionIn_5 : decode cX9_resumptionIn 5 = .ok (.goto 7, 3) := by decide +kernel
theorem dX9_resumptionIn_8 : decode cX9_resumptionIn 8 = .ok (.aload_n 0, 1) := by decide +kernel
theorem dX9_resumptionIn_9 : decode cX9_resumptionIn 9 = .ok (.getfield 16, 3) := by decide +kernel
theorem dX9_resumptionIn_12 : decode cX9_resumptionIn 12 = .ok (.areturn, 1) := by decide +kernel
theorem dX10_init_0 : decode cX10_init 0 = .ok (.aload_n 0, 1) := by decide +kernel
theorem dX10_init_1 : decode cX10_init 1 = .ok (.invokespecial 3, 3) := by decide +kernel
theorem dX10_init_4 : decode cX10_init 4 = .ok (.aload_n 0, 1) := by decide +kernel
theorem dX10_init_5 : decode cX10_init 5 = .ok (.bipush 100, 2) := by decide +kernel
theorem dX10_init_7 : decode cX10_init 7 = .ok (.anewarray 9, 3) := by decide +kernel
theorem dX10_init_10 : decode cX10_init 10 = .ok (.putfield 11, 3) := by decide +kernel
theorem dX10_init_13 : decode cX10_init 13 = .ok (.return_, 1) := by decide +kernel
theorem dX10_clear_0 : decode cX10_clear 0 = .ok (.aload_n 0, 1) := by decide +kernel
theorem dX10_clear_1 : decode cX10_clear 1 = .ok (.iconst 0, 1) := by decide +kernel
theorem dX10_clear_2 : decode cX10_clear 2 = .ok (.putfield 17, 3) := by decide +kernel
theorem dX10_clear_5 : decode cX10_clear 5 = .ok (.aload_n 0, 1) := by decide +kernel
theorem dX10_clear_6 : decode cX10_clear 6 = .ok (.iconst 0, 1) := by decide +kernel
theorem dX10_clear_7 : decode cX10_clear 7 = .ok (.putfield 21, 3) := by decide +kernel
theorem dX10_clear_10 : decode cX10_clear 10 = .ok (.return_, 1) := by decide +kernel
theorem dX10_copyFrom_0 : decode cX10_copyFrom 0 = .ok (.iconst 0, 1) := by decide +kernel
theorem dX10_copyFrom_1 : decode cX10_copyFrom 1 = .ok (.istore_n 2, 1) := by decide +kernel
theorem dX10_copyFrom_2 : decode cX10_copyFrom 2 = .ok (.iload_n 2, 1) := by decide +kernel
theorem dX10_copyFrom_3 : decode cX10_copyFrom 3 = .ok (.aload_n 1, 1) := by decide +kernel
