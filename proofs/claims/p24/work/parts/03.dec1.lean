theorem dX10_copyFrom_4 : decode cX10_copyFrom 4 = .ok (.getfield 17, 3) := by decide +kernel
theorem dX10_copyFrom_7 : decode cX10_copyFrom 7 = .ok (.if_icmp .ge 21, 3) := by decide +kernel
theorem dX10_copyFrom_10 : decode cX10_copyFrom 10 = .ok (.aload_n 0, 1) := by decide +kernel
theorem dX10_copyFrom_11 : decode cX10_copyFrom 11 = .ok (.getfield 11, 3) := by decide +kernel
theorem dX10_copyFrom_14 : decode cX10_copyFrom 14 = .ok (.iload_n 2, 1) := by decide +kernel
theorem dX10_copyFrom_15 : decode cX10_copyFrom 15 = .ok (.aload_n 1, 1) := by decide +kernel
theorem dX10_copyFrom_16 : decode cX10_copyFrom 16 = .ok (.getfield 11, 3) := by decide +kernel
theorem dX10_copyFrom_19 : decode cX10_copyFrom 19 = .ok (.iload_n 2, 1) := by decide +kernel
theorem dX10_copyFrom_20 : decode cX10_copyFrom 20 = .ok (.aaload, 1) := by decide +kernel
theorem dX10_copyFrom_21 : decode cX10_copyFrom 21 = .ok (.aastore, 1) := by decide +kernel
theorem dX10_copyFrom_22 : decode cX10_copyFrom 22 = .ok (.iinc 2 1, 3) := by decide +kernel
theorem dX10_copyFrom_25 : decode cX10_copyFrom 25 = .ok (.goto (-23), 3) := by decide +kernel
theorem dX10_copyFrom_28 : decode cX10_copyFrom 28 = .ok (.aload_n 0, 1) := by decide +kernel
theorem dX10_copyFrom_29 : decode cX10_copyFrom 29 = .ok (.aload_n 1, 1) := by decide +kernel
theorem dX10_copyFrom_30 : decode cX10_copyFrom 30 = .ok (.getfield 17, 3) := by decide +kernel
theorem dX10_copyFrom_33 : decode cX10_copyFrom 33 = .ok (.putfield 17, 3) := by decide +kernel
theorem dX10_copyFrom_36 : decode cX10_copyFrom 36 = .ok (.aload_n 0, 1) := by decide +kernel
theorem dX10_copyFrom_37 : decode cX10_copyFrom 37 = .ok (.aload_n 1, 1) := by decide +kernel
theorem dX10_copyFrom_38 : decode cX10_copyFrom 38 = .ok (.getfield 21, 3) := by decide +kernel
theorem dX10_copyFrom_41 : decode cX10_copyFrom 41 = .ok (.putfield 21, 3) := by decide +kernel
theorem dX10_copyFrom_44 : decode cX10_copyFrom 44 = .ok (.return_, 1) := by decide +kernel
theorem dX10_hasRoomFor_0 : decode cX10_hasRoomFor 0 = .ok (.aload_n 0, 1) := by decide +kernel
theorem dX10_hasRoomFor_1 : decode cX10_hasRoomFor 1 = .ok (.getfield 17, 3) := by decide +kernel
theorem dX10_hasRoomFor_4 : decode cX10_hasRoomFor 4 = .ok (.iload_n 1, 1) := by decide +kernel
theorem dX10_hasRoomFor_5 : decode cX10_hasRoomFor 5 = .ok (.iadd, 1) := by decide +kernel
theorem dX10_hasRoomFor_6 : decode cX10_hasRoomFor 6 = .ok (.bipush 100, 2) := by decide +kernel
theorem dX10_hasRoomFor_8 : decode cX10_hasRoomFor 8 = .ok (.if_icmp .gt 7, 3) := by decide +kernel
theorem dX10_hasRoomFor_11 : decode cX10_hasRoomFor 11 = .ok (.iconst 1, 1) := by decide +kernel
theorem dX10_hasRoomFor_12 : decode cX10_hasRoomFor 12 = .ok (.goto 4, 3) := by decide +kernel
theorem dX10_hasRoomFor_15 : decode cX10_hasRoomFor 15 = .ok (.iconst 0, 1) := by decide +kernel
theorem dX10_hasRoomFor_16 : decode cX10_hasRoomFor 16 = .ok (.ireturn, 1) := by decide +kernel
theorem dX10_push_0 : decode cX10_push 0 = .ok (.aload_n 0, 1) := by decide +kernel
theorem dX10_push_1 : decode cX10_push 1 = .ok (.getfield 17, 3) := by decide +kernel
theorem dX10_push_4 : decode cX10_push 4 = .ok (.aload_n 0, 1) := by decide +kernel
theorem dX10_push_5 : decode cX10_push 5 = .ok (.getfield 11, 3) := by decide +kernel
theorem dX10_push_8 : decode cX10_push 8 = .ok (.arraylength, 1) := by decide +kernel
theorem dX10_push_9 : decode cX10_push 9 = .ok (.if_icmp .ge 38, 3) := by decide +kernel
theorem dX10_push_12 : decode cX10_push 12 = .ok (.aload_n 0, 1) := by decide +kernel
theorem dX10_push_13 : decode cX10_push 13 = .ok (.getfield 11, 3) := by decide +kernel
theorem dX10_push_16 : decode cX10_push 16 = .ok (.aload_n 0, 1) := by decide +kernel
theorem dX10_push_17 : decode cX10_push 17 = .ok (.getfield 17, 3) := by decide +kernel
theorem dX10_push_20 : decode cX10_push 20 = .ok (.aload_n 1, 1) := by decide +kernel
theorem dX10_push_21 : decode cX10_push 21 = .ok (.aastore, 1) := by decide +kernel
theorem dX10_push_22 : decode cX10_push 22 = .ok (.aload_n 0, 1) := by decide +kernel
theorem dX10_push_23 : decode cX10_push 23 = .ok (.dup, 1) := by decide +kernel
theorem dX10_push_24 : decode cX10_push 24 = .ok (.getfield 17, 3) := by decide +kernel
theorem dX10_push_27 : decode cX10_push 27 = .ok (.iconst 1, 1) := by decide +kernel
theorem dX10_push_28 : decode cX10_push 28 = .ok (.iadd, 1) := by decide +kernel
theorem dX10_push_29 : decode cX10_push 29 = .ok (.putfield 17, 3) := by decide +kernel
theorem dX10_push_32 : decode cX10_push 32 = .ok (.aload_n 0, 1) := by decide +kernel
theorem dX10_push_33 : decode cX10_push 33 = .ok (.aload_n 0, 1) := by decide +kernel
theorem dX10_push_34 : decode cX10_push 34 = .ok (.getfield 21, 3) := by decide +kernel
theorem dX10_push_37 : decode cX10_push 37 = .ok (.aload_n 0, 1) := by decide +kernel
theorem dX10_push_38 : decode cX10_push 38 = .ok (.getfield 17, 3) := by decide +kernel
theorem dX10_push_41 : decode cX10_push 41 = .ok (.invokestatic 24, 3) := by decide +kernel
theorem dX10_push_44 : decode cX10_push 44 = .ok (.putfield 21, 3) := by decide +kernel
theorem dX10_push_47 : decode cX10_push 47 = .ok (.return_, 1) := by decide +kernel
theorem dX10_pop_0 : decode cX10_pop 0 = .ok (.aload_n 0, 1) := by decide +kernel
theorem dX10_pop_1 : decode cX10_pop 1 = .ok (.getfield 17, 3) := by decide +kernel
theorem dX10_pop_4 : decode cX10_pop 4 = .ok (.ifCond .le 13, 3) := by decide +kernel
theorem dX10_pop_7 : decode cX10_pop 7 = .ok (.aload_n 0, 1) := by decide +kernel
theorem dX10_pop_8 : decode cX10_pop 8 = .ok (.dup, 1) := by decide +kernel
theorem dX10_pop_9 : decode cX10_pop 9 = .ok (.getfield 17, 3) := by decide +kernel
theorem dX10_pop_12 : decode cX10_pop 12 = .ok (.iconst 1, 1) := by decide +kernel
theorem dX10_pop_13 : decode cX10_pop 13 = .ok (.isub, 1) := by decide +kernel
theorem dX10_pop_14 : decode cX10_pop 14 = .ok (.putfield 17, 3) := by decide +kernel
theorem dX10_pop_17 : decode cX10_pop 17 = .ok (.return_, 1) := by decide +kernel
theorem dX10_below_0 : decode cX10_below 0 = .ok (.iload_n 1, 1) := by decide +kernel
theorem dX10_below_1 : decode cX10_below 1 = .ok (.ifCond .lt 27, 3) := by decide +kernel
theorem dX10_below_4 : decode cX10_below 4 = .ok (.iload_n 1, 1) := by decide +kernel
theorem dX10_below_5 : decode cX10_below 5 = .ok (.aload_n 0, 1) := by decide +kernel
theorem dX10_below_6 : decode cX10_below 6 = .ok (.getfield 17, 3) := by decide +kernel
theorem dX10_below_9 : decode cX10_below 9 = .ok (.if_icmp .ge 19, 3) := by decide +kernel
theorem dX10_below_12 : decode cX10_below 12 = .ok (.aload_n 0, 1) := by decide +kernel
theorem dX10_below_13 : decode cX10_below 13 = .ok (.getfield 11, 3) := by decide +kernel
theorem dX10_below_16 : decode cX10_below 16 = .ok (.aload_n 0, 1) := by decide +kernel
theorem dX10_below_17 : decode cX10_below 17 = .ok (.getfield 17, 3) := by decide +kernel
theorem dX10_below_20 : decode cX10_below 20 = .ok (.iconst 1, 1) := by decide +kernel
theorem dX10_below_21 : decode cX10_below 21 = .ok (.isub, 1) := by decide +kernel
theorem dX10_below_22 : decode cX10_below 22 = .ok (.iload_n 1, 1) := by decide +kernel
theorem dX10_below_23 : decode cX10_below 23 = .ok (.isub, 1) := by decide +kernel
theorem dX10_below_24 : decode cX10_below 24 = .ok (.aaload, 1) := by decide +kernel
theorem dX10_below_25 : decode cX10_below 25 = .ok (.goto 4, 3) := by decide +kernel
theorem dX10_below_28 : decode cX10_below 28 = .ok (.aconst_null, 1) := by decide +kernel
theorem dX10_below_29 : decode cX10_below 29 = .ok (.areturn, 1) := by decide +kernel
theorem dX10_popDownTo_0 : decode cX10_popDownTo 0 = .ok (.iconst 0, 1) := by decide +kernel
theorem dX10_popDownTo_1 : decode cX10_popDownTo 1 = .ok (.aload_n 0, 1) := by decide +kernel
theorem dX10_popDownTo_2 : decode cX10_popDownTo 2 = .ok (.getfield 17, 3) := by decide +kernel
theorem dX10_popDownTo_5 : decode cX10_popDownTo 5 = .ok (.iload_n 1, 1) := by decide +kernel
theorem dX10_popDownTo_6 : decode cX10_popDownTo 6 = .ok (.isub, 1) := by decide +kernel
theorem dX10_popDownTo_7 : decode cX10_popDownTo 7 = .ok (.invokestatic 24, 3) := by decide +kernel
theorem dX10_popDownTo_10 : decode cX10_popDownTo 10 = .ok (.anewarray 9, 3) := by decide +kernel
theorem dX10_popDownTo_13 : decode cX10_popDownTo 13 = .ok (.astore_n 2, 1) := by decide +kernel
theorem dX10_popDownTo_14 : decode cX10_popDownTo 14 = .ok (.iconst 0, 1) := by decide +kernel
theorem dX10_popDownTo_15 : decode cX10_popDownTo 15 = .ok (.istore_n 3, 1) := by decide +kernel
theorem dX10_popDownTo_16 : decode cX10_popDownTo 16 = .ok (.iload_n 3, 1) := by decide +kernel
theorem dX10_popDownTo_17 : decode cX10_popDownTo 17 = .ok (.aload_n 2, 1) := by decide +kernel
theorem dX10_popDownTo_18 : decode cX10_popDownTo 18 = .ok (.arraylength, 1) := by decide +kernel
theorem dX10_popDownTo_19 : decode cX10_popDownTo 19 = .ok (.if_icmp .ge 20, 3) := by decide +kernel
theorem dX10_popDownTo_22 : decode cX10_popDownTo 22 = .ok (.aload_n 2, 1) := by decide +kernel
theorem dX10_popDownTo_23 : decode cX10_popDownTo 23 = .ok (.iload_n 3, 1) := by decide +kernel
theorem dX10_popDownTo_24 : decode cX10_popDownTo 24 = .ok (.aload_n 0, 1) := by decide +kernel
theorem dX10_popDownTo_25 : decode cX10_popDownTo 25 = .ok (.getfield 11, 3) := by decide +kernel
theorem dX10_popDownTo_28 : decode cX10_popDownTo 28 = .ok (.iload_n 1, 1) := by decide +kernel
theorem dX10_popDownTo_29 : decode cX10_popDownTo 29 = .ok (.iload_n 3, 1) := by decide +kernel
theorem dX10_popDownTo_30 : decode cX10_popDownTo 30 = .ok (.iadd, 1) := by decide +kernel
theorem dX10_popDownTo_31 : decode cX10_popDownTo 31 = .ok (.aaload, 1) := by decide +kernel
theorem dX10_popDownTo_32 : decode cX10_popDownTo 32 = .ok (.aastore, 1) := by decide +kernel
theorem dX10_popDownTo_33 : decode cX10_popDownTo 33 = .ok (.iinc 3 1, 3) := by decide +kernel
theorem dX10_popDownTo_36 : decode cX10_popDownTo 36 = .ok (.goto (-20), 3) := by decide +kernel
theorem dX10_popDownTo_39 : decode cX10_popDownTo 39 = .ok (.aload_n 0, 1) := by decide +kernel
theorem dX10_popDownTo_40 : decode cX10_popDownTo 40 = .ok (.dup, 1) := by decide +kernel
theorem dX10_popDownTo_41 : decode cX10_popDownTo 41 = .ok (.getfield 17, 3) := by decide +kernel
theorem dX10_popDownTo_44 : decode cX10_popDownTo 44 = .ok (.aload_n 2, 1) := by decide +kernel
theorem dX10_popDownTo_45 : decode cX10_popDownTo 45 = .ok (.arraylength, 1) := by decide +kernel
theorem dX10_popDownTo_46 : decode cX10_popDownTo 46 = .ok (.isub, 1) := by decide +kernel
theorem dX10_popDownTo_47 : decode cX10_popDownTo 47 = .ok (.putfield 17, 3) := by decide +kernel
theorem dX10_popDownTo_50 : decode cX10_popDownTo 50 = .ok (.aload_n 2, 1) := by decide +kernel
theorem dX10_popDownTo_51 : decode cX10_popDownTo 51 = .ok (.areturn, 1) := by decide +kernel
theorem dX10_placeOfHandler_0 : decode cX10_placeOfHandler 0 = .ok (.iconst 0, 1) := by decide +kernel
theorem dX10_placeOfHandler_1 : decode cX10_placeOfHandler 1 = .ok (.istore_n 2, 1) := by decide +kernel
theorem dX10_placeOfHandler_2 : decode cX10_placeOfHandler 2 = .ok (.aload_n 0, 1) := by decide +kernel
theorem dX10_placeOfHandler_3 : decode cX10_placeOfHandler 3 = .ok (.getfield 17, 3) := by decide +kernel
theorem dX10_placeOfHandler_6 : decode cX10_placeOfHandler 6 = .ok (.iconst 1, 1) := by decide +kernel
theorem dX10_placeOfHandler_7 : decode cX10_placeOfHandler 7 = .ok (.isub, 1) := by decide +kernel
theorem dX10_placeOfHandler_8 : decode cX10_placeOfHandler 8 = .ok (.istore_n 3, 1) := by decide +kernel
theorem dX10_placeOfHandler_9 : decode cX10_placeOfHandler 9 = .ok (.iload_n 3, 1) := by decide +kernel
theorem dX10_placeOfHandler_10 : decode cX10_placeOfHandler 10 = .ok (.ifCond .lt 76, 3) := by decide +kernel
theorem dX10_placeOfHandler_13 : decode cX10_placeOfHandler 13 = .ok (.aload_n 0, 1) := by decide +kernel
theorem dX10_placeOfHandler_14 : decode cX10_placeOfHandler 14 = .ok (.getfield 11, 3) := by decide +kernel
theorem dX10_placeOfHandler_17 : decode cX10_placeOfHandler 17 = .ok (.iload_n 3, 1) := by decide +kernel
theorem dX10_placeOfHandler_18 : decode cX10_placeOfHandler 18 = .ok (.aaload, 1) := by decide +kernel
theorem dX10_placeOfHandler_19 : decode cX10_placeOfHandler 19 = .ok (.astore 4, 2) := by decide +kernel
theorem dX10_placeOfHandler_21 : decode cX10_placeOfHandler 21 = .ok (.aload 4, 2) := by decide +kernel
theorem dX10_placeOfHandler_23 : decode cX10_placeOfHandler 23 = .ok (.getfield 30, 3) := by decide +kernel
theorem dX10_placeOfHandler_26 : decode cX10_placeOfHandler 26 = .ok (.bipush 8, 2) := by decide +kernel
theorem dX10_placeOfHandler_28 : decode cX10_placeOfHandler 28 = .ok (.if_icmp .ne 21, 3) := by decide +kernel
theorem dX10_placeOfHandler_31 : decode cX10_placeOfHandler 31 = .ok (.aload 4, 2) := by decide +kernel
theorem dX10_placeOfHandler_33 : decode cX10_placeOfHandler 33 = .ok (.getfield 33, 3) := by decide +kernel
theorem dX10_placeOfHandler_36 : decode cX10_placeOfHandler 36 = .ok (.getfield 37, 3) := by decide +kernel
theorem dX10_placeOfHandler_39 : decode cX10_placeOfHandler 39 = .ok (.iload_n 1, 1) := by decide +kernel
theorem dX10_placeOfHandler_40 : decode cX10_placeOfHandler 40 = .ok (.if_icmp .ne 9, 3) := by decide +kernel
theorem dX10_placeOfHandler_43 : decode cX10_placeOfHandler 43 = .ok (.iinc 2 1, 3) := by decide +kernel
theorem dX10_placeOfHandler_46 : decode cX10_placeOfHandler 46 = .ok (.goto 34, 3) := by decide +kernel
theorem dX10_placeOfHandler_49 : decode cX10_placeOfHandler 49 = .ok (.aload 4, 2) := by decide +kernel
theorem dX10_placeOfHandler_51 : decode cX10_placeOfHandler 51 = .ok (.getfield 30, 3) := by decide +kernel
theorem dX10_placeOfHandler_54 : decode cX10_placeOfHandler 54 = .ok (.bipush 12, 2) := by decide +kernel
theorem dX10_placeOfHandler_56 : decode cX10_placeOfHandler 56 = .ok (.if_icmp .ne 24, 3) := by decide +kernel
theorem dX10_placeOfHandler_59 : decode cX10_placeOfHandler 59 = .ok (.aload 4, 2) := by decide +kernel
theorem dX10_placeOfHandler_61 : decode cX10_placeOfHandler 61 = .ok (.getfield 33, 3) := by decide +kernel
theorem dX10_placeOfHandler_64 : decode cX10_placeOfHandler 64 = .ok (.iload_n 1, 1) := by decide +kernel
theorem dX10_placeOfHandler_65 : decode cX10_placeOfHandler 65 = .ok (.invokevirtual 42, 3) := by decide +kernel
theorem dX10_placeOfHandler_68 : decode cX10_placeOfHandler 68 = .ok (.ifnull 12, 3) := by decide +kernel
theorem dX10_placeOfHandler_71 : decode cX10_placeOfHandler 71 = .ok (.iload_n 2, 1) := by decide +kernel
theorem dX10_placeOfHandler_72 : decode cX10_placeOfHandler 72 = .ok (.ifCond .ne 5, 3) := by decide +kernel
theorem dX10_placeOfHandler_75 : decode cX10_placeOfHandler 75 = .ok (.iload_n 3, 1) := by decide +kernel
theorem dX10_placeOfHandler_76 : decode cX10_placeOfHandler 76 = .ok (.ireturn, 1) := by decide +kernel
theorem dX10_placeOfHandler_77 : decode cX10_placeOfHandler 77 = .ok (.iinc 2 (-1), 3) := by decide +kernel
theorem dX10_placeOfHandler_80 : decode cX10_placeOfHandler 80 = .ok (.iinc 3 (-1), 3) := by decide +kernel
theorem dX10_placeOfHandler_83 : decode cX10_placeOfHandler 83 = .ok (.goto (-74), 3) := by decide +kernel
theorem dX10_placeOfHandler_86 : decode cX10_placeOfHandler 86 = .ok (.iconst (-1), 1) := by decide +kernel
theorem dX10_placeOfHandler_87 : decode cX10_placeOfHandler 87 = .ok (.ireturn, 1) := by decide +kernel
theorem dX11_init_0 : decode cX11_init 0 = .ok (.aload_n 0, 1) := by decide +kernel
theorem dX11_init_1 : decode cX11_init 1 = .ok (.invokespecial 3, 3) := by decide +kernel
theorem dX11_init_4 : decode cX11_init 4 = .ok (.aload_n 0, 1) := by decide +kernel
theorem dX11_init_5 : decode cX11_init 5 = .ok (.bipush 120, 2) := by decide +kernel
theorem dX11_init_7 : decode cX11_init 7 = .ok (.newarray .int, 2) := by decide +kernel
theorem dX11_init_9 : decode cX11_init 9 = .ok (.putfield 9, 3) := by decide +kernel
theorem dX11_init_12 : decode cX11_init 12 = .ok (.aload_n 0, 1) := by decide +kernel
theorem dX11_init_13 : decode cX11_init 13 = .ok (.iconst 0, 1) := by decide +kernel
theorem dX11_init_14 : decode cX11_init 14 = .ok (.putfield 13, 3) := by decide +kernel
theorem dX11_init_17 : decode cX11_init 17 = .ok (.aload_n 0, 1) := by decide +kernel
theorem dX11_init_18 : decode cX11_init 18 = .ok (.new 17, 3) := by decide +kernel
theorem dX11_init_21 : decode cX11_init 21 = .ok (.dup, 1) := by decide +kernel
theorem dX11_init_22 : decode cX11_init 22 = .ok (.invokespecial 19, 3) := by decide +kernel
theorem dX11_init_25 : decode cX11_init 25 = .ok (.putfield 20, 3) := by decide +kernel
theorem dX11_init_28 : decode cX11_init 28 = .ok (.aload_n 0, 1) := by decide +kernel
theorem dX11_init_29 : decode cX11_init 29 = .ok (.new 24, 3) := by decide +kernel
theorem dX11_init_32 : decode cX11_init 32 = .ok (.dup, 1) := by decide +kernel
theorem dX11_init_33 : decode cX11_init 33 = .ok (.invokespecial 26, 3) := by decide +kernel
theorem dX11_init_36 : decode cX11_init 36 = .ok (.putfield 27, 3) := by decide +kernel
theorem dX11_init_39 : decode cX11_init 39 = .ok (.aload_n 0, 1) := by decide +kernel
theorem dX11_init_40 : decode cX11_init 40 = .ok (.new 31, 3) := by decide +kernel
theorem dX11_init_43 : decode cX11_init 43 = .ok (.dup, 1) := by decide +kernel
theorem dX11_init_44 : decode cX11_init 44 = .ok (.invokespecial 33, 3) := by decide +kernel
theorem dX11_init_47 : decode cX11_init 47 = .ok (.putfield 34, 3) := by decide +kernel
theorem dX11_init_50 : decode cX11_init 50 = .ok (.aload_n 0, 1) := by decide +kernel
theorem dX11_init_51 : decode cX11_init 51 = .ok (.iconst 2, 1) := by decide +kernel
theorem dX11_init_52 : decode cX11_init 52 = .ok (.anewarray 31, 3) := by decide +kernel
theorem dX11_init_55 : decode cX11_init 55 = .ok (.putfield 38, 3) := by decide +kernel
theorem dX11_init_58 : decode cX11_init 58 = .ok (.return_, 1) := by decide +kernel
theorem dX11_write_0 : decode cX11_write 0 = .ok (.iload_n 1, 1) := by decide +kernel
theorem dX11_write_1 : decode cX11_write 1 = .ok (.bipush 32, 2) := by decide +kernel
theorem dX11_write_3 : decode cX11_write 3 = .ok (.if_icmp .lt 9, 3) := by decide +kernel
theorem dX11_write_6 : decode cX11_write 6 = .ok (.iload_n 1, 1) := by decide +kernel
theorem dX11_write_7 : decode cX11_write 7 = .ok (.bipush 126, 2) := by decide +kernel
theorem dX11_write_9 : decode cX11_write 9 = .ok (.if_icmp .le 5, 3) := by decide +kernel
theorem dX11_write_12 : decode cX11_write 12 = .ok (.iconst (-1), 1) := by decide +kernel
theorem dX11_write_13 : decode cX11_write 13 = .ok (.ireturn, 1) := by decide +kernel
theorem dX11_write_14 : decode cX11_write 14 = .ok (.aload_n 0, 1) := by decide +kernel
theorem dX11_write_15 : decode cX11_write 15 = .ok (.getfield 13, 3) := by decide +kernel
theorem dX11_write_18 : decode cX11_write 18 = .ok (.bipush 120, 2) := by decide +kernel
theorem dX11_write_20 : decode cX11_write 20 = .ok (.if_icmp .lt 6, 3) := by decide +kernel
theorem dX11_write_23 : decode cX11_write 23 = .ok (.bipush (-3), 2) := by decide +kernel
theorem dX11_write_25 : decode cX11_write 25 = .ok (.ireturn, 1) := by decide +kernel
theorem dX11_write_26 : decode cX11_write 26 = .ok (.aload_n 0, 1) := by decide +kernel
theorem dX11_write_27 : decode cX11_write 27 = .ok (.getfield 9, 3) := by decide +kernel
theorem dX11_write_30 : decode cX11_write 30 = .ok (.aload_n 0, 1) := by decide +kernel
theorem dX11_write_31 : decode cX11_write 31 = .ok (.getfield 13, 3) := by decide +kernel
theorem dX11_write_34 : decode cX11_write 34 = .ok (.iload_n 1, 1) := by decide +kernel
theorem dX11_write_35 : decode cX11_write 35 = .ok (.iastore, 1) := by decide +kernel
theorem dX11_write_36 : decode cX11_write 36 = .ok (.aload_n 0, 1) := by decide +kernel
theorem dX11_write_37 : decode cX11_write 37 = .ok (.dup, 1) := by decide +kernel
theorem dX11_write_38 : decode cX11_write 38 = .ok (.getfield 13, 3) := by decide +kernel
theorem dX11_write_41 : decode cX11_write 41 = .ok (.iconst 1, 1) := by decide +kernel
theorem dX11_write_42 : decode cX11_write 42 = .ok (.iadd, 1) := by decide +kernel
theorem dX11_write_43 : decode cX11_write 43 = .ok (.putfield 13, 3) := by decide +kernel
theorem dX11_write_46 : decode cX11_write 46 = .ok (.aload_n 0, 1) := by decide +kernel
theorem dX11_write_47 : decode cX11_write 47 = .ok (.getfield 13, 3) := by decide +kernel
theorem dX11_write_50 : decode cX11_write 50 = .ok (.ireturn, 1) := by decide +kernel
theorem dX11_wipe_0 : decode cX11_wipe 0 = .ok (.aload_n 0, 1) := by decide +kernel
theorem dX11_wipe_1 : decode cX11_wipe 1 = .ok (.getfield 13, 3) := by decide +kernel
theorem dX11_wipe_4 : decode cX11_wipe 4 = .ok (.istore_n 1, 1) := by decide +kernel
theorem dX11_wipe_5 : decode cX11_wipe 5 = .ok (.aload_n 0, 1) := by decide +kernel
theorem dX11_wipe_6 : decode cX11_wipe 6 = .ok (.iconst 0, 1) := by decide +kernel
theorem dX11_wipe_7 : decode cX11_wipe 7 = .ok (.putfield 13, 3) := by decide +kernel
theorem dX11_wipe_10 : decode cX11_wipe 10 = .ok (.iload_n 1, 1) := by decide +kernel
theorem dX11_wipe_11 : decode cX11_wipe 11 = .ok (.ireturn, 1) := by decide +kernel
theorem dX11_fault_0 : decode cX11_fault 0 = .ok (.iload_n 1, 1) := by decide +kernel
theorem dX11_fault_1 : decode cX11_fault 1 = .ok (.ifCond .eq 10, 3) := by decide +kernel
theorem dX11_fault_4 : decode cX11_fault 4 = .ok (.iload_n 1, 1) := by decide +kernel
theorem dX11_fault_5 : decode cX11_fault 5 = .ok (.iconst 1, 1) := by decide +kernel
theorem dX11_fault_6 : decode cX11_fault 6 = .ok (.if_icmp .eq 5, 3) := by decide +kernel
theorem dX11_fault_9 : decode cX11_fault 9 = .ok (.iconst (-1), 1) := by decide +kernel
theorem dX11_fault_10 : decode cX11_fault 10 = .ok (.ireturn, 1) := by decide +kernel
theorem dX11_fault_11 : decode cX11_fault 11 = .ok (.aload_n 0, 1) := by decide +kernel
theorem dX11_fault_12 : decode cX11_fault 12 = .ok (.getfield 20, 3) := by decide +kernel
theorem dX11_fault_15 : decode cX11_fault 15 = .ok (.aload_n 0, 1) := by decide +kernel
theorem dX11_fault_16 : decode cX11_fault 16 = .ok (.getfield 9, 3) := by decide +kernel
theorem dX11_fault_19 : decode cX11_fault 19 = .ok (.aload_n 0, 1) := by decide +kernel
theorem dX11_fault_20 : decode cX11_fault 20 = .ok (.getfield 13, 3) := by decide +kernel
theorem dX11_fault_23 : decode cX11_fault 23 = .ok (.iload_n 1, 1) := by decide +kernel
theorem dX11_fault_24 : decode cX11_fault 24 = .ok (.iconst 1, 1) := by decide +kernel
theorem dX11_fault_25 : decode cX11_fault 25 = .ok (.if_icmp .ne 7, 3) := by decide +kernel
theorem dX11_fault_28 : decode cX11_fault 28 = .ok (.iconst 1, 1) := by decide +kernel
theorem dX11_fault_29 : decode cX11_fault 29 = .ok (.goto 4, 3) := by decide +kernel
theorem dX11_fault_32 : decode cX11_fault 32 = .ok (.iconst 0, 1) := by decide +kernel
theorem dX11_fault_33 : decode cX11_fault 33 = .ok (.invokevirtual 42, 3) := by decide +kernel
theorem dX11_fault_36 : decode cX11_fault 36 = .ok (.ireturn, 1) := by decide +kernel
theorem dX11_load_0 : decode cX11_load 0 = .ok (.aload_n 0, 1) := by decide +kernel
theorem dX11_load_1 : decode cX11_load 1 = .ok (.getfield 20, 3) := by decide +kernel
theorem dX11_load_4 : decode cX11_load 4 = .ok (.aload_n 0, 1) := by decide +kernel
theorem dX11_load_5 : decode cX11_load 5 = .ok (.getfield 9, 3) := by decide +kernel
theorem dX11_load_8 : decode cX11_load 8 = .ok (.aload_n 0, 1) := by decide +kernel
theorem dX11_load_9 : decode cX11_load 9 = .ok (.getfield 13, 3) := by decide +kernel
theorem dX11_load_12 : decode cX11_load 12 = .ok (.iconst 0, 1) := by decide +kernel
theorem dX11_load_13 : decode cX11_load 13 = .ok (.invokevirtual 42, 3) := by decide +kernel
theorem dX11_load_16 : decode cX11_load 16 = .ok (.bipush (-9), 2) := by decide +kernel
theorem dX11_load_18 : decode cX11_load 18 = .ok (.if_icmp .eq 6, 3) := by decide +kernel
theorem dX11_load_21 : decode cX11_load 21 = .ok (.bipush (-2), 2) := by decide +kernel
theorem dX11_load_23 : decode cX11_load 23 = .ok (.ireturn, 1) := by decide +kernel
theorem dX11_load_24 : decode cX11_load 24 = .ok (.aload_n 0, 1) := by decide +kernel
theorem dX11_load_25 : decode cX11_load 25 = .ok (.getfield 20, 3) := by decide +kernel
theorem dX11_load_28 : decode cX11_load 28 = .ok (.invokevirtual 46, 3) := by decide +kernel
theorem dX11_load_31 : decode cX11_load 31 = .ok (.astore_n 1, 1) := by decide +kernel
theorem dX11_load_32 : decode cX11_load 32 = .ok (.aload_n 1, 1) := by decide +kernel
theorem dX11_load_33 : decode cX11_load 33 = .ok (.aload_n 0, 1) := by decide +kernel
theorem dX11_load_34 : decode cX11_load 34 = .ok (.getfield 27, 3) := by decide +kernel
theorem dX11_load_37 : decode cX11_load 37 = .ok (.aload_n 1, 1) := by decide +kernel
theorem dX11_load_38 : decode cX11_load 38 = .ok (.getfield 50, 3) := by decide +kernel
theorem dX11_load_41 : decode cX11_load 41 = .ok (.invokevirtual 56, 3) := by decide +kernel
theorem dX11_load_44 : decode cX11_load 44 = .ok (.putfield 60, 3) := by decide +kernel
theorem dX11_load_47 : decode cX11_load 47 = .ok (.aload_n 0, 1) := by decide +kernel
theorem dX11_load_48 : decode cX11_load 48 = .ok (.getfield 34, 3) := by decide +kernel
theorem dX11_load_51 : decode cX11_load 51 = .ok (.aload_n 1, 1) := by decide +kernel
theorem dX11_load_52 : decode cX11_load 52 = .ok (.putfield 63, 3) := by decide +kernel
theorem dX11_load_55 : decode cX11_load 55 = .ok (.aload_n 0, 1) := by decide +kernel
theorem dX11_load_56 : decode cX11_load 56 = .ok (.getfield 34, 3) := by decide +kernel
theorem dX11_load_59 : decode cX11_load 59 = .ok (.invokevirtual 67, 3) := by decide +kernel
theorem dX11_load_62 : decode cX11_load 62 = .ok (.aload_n 1, 1) := by decide +kernel
theorem dX11_load_63 : decode cX11_load 63 = .ok (.getfield 70, 3) := by decide +kernel
theorem dX11_load_66 : decode cX11_load 66 = .ok (.arraylength, 1) := by decide +kernel
theorem dX11_load_67 : decode cX11_load 67 = .ok (.ireturn, 1) := by decide +kernel
theorem dX11_define_0 : decode cX11_define 0 = .ok (.iload_n 1, 1) := by decide +kernel
theorem dX11_define_1 : decode cX11_define 1 = .ok (.invokestatic 74, 3) := by decide +kernel
theorem dX11_define_4 : decode cX11_define 4 = .ok (.ifCond .ne 5, 3) := by decide +kernel
theorem dX11_define_7 : decode cX11_define 7 = .ok (.iconst (-1), 1) := by decide +kernel
theorem dX11_define_8 : decode cX11_define 8 = .ok (.ireturn, 1) := by decide +kernel
theorem dX11_define_9 : decode cX11_define 9 = .ok (.aload_n 0, 1) := by decide +kernel
theorem dX11_define_10 : decode cX11_define 10 = .ok (.getfield 20, 3) := by decide +kernel
theorem dX11_define_13 : decode cX11_define 13 = .ok (.aload_n 0, 1) := by decide +kernel
theorem dX11_define_14 : decode cX11_define 14 = .ok (.getfield 9, 3) := by decide +kernel
theorem dX11_define_17 : decode cX11_define 17 = .ok (.aload_n 0, 1) := by decide +kernel
theorem dX11_define_18 : decode cX11_define 18 = .ok (.getfield 13, 3) := by decide +kernel
theorem dX11_define_21 : decode cX11_define 21 = .ok (.iconst 1, 1) := by decide +kernel
theorem dX11_define_22 : decode cX11_define 22 = .ok (.invokevirtual 42, 3) := by decide +kernel
theorem dX11_define_25 : decode cX11_define 25 = .ok (.bipush (-9), 2) := by decide +kernel
theorem dX11_define_27 : decode cX11_define 27 = .ok (.if_icmp .eq 6, 3) := by decide +kernel
theorem dX11_define_30 : decode cX11_define 30 = .ok (.bipush (-2), 2) := by decide +kernel
theorem dX11_define_32 : decode cX11_define 32 = .ok (.ireturn, 1) := by decide +kernel
theorem dX11_define_33 : decode cX11_define 33 = .ok (.aload_n 0, 1) := by decide +kernel
theorem dX11_define_34 : decode cX11_define 34 = .ok (.getfield 34, 3) := by decide +kernel
theorem dX11_define_37 : decode cX11_define 37 = .ok (.getfield 78, 3) := by decide +kernel
theorem dX11_define_40 : decode cX11_define 40 = .ok (.iload_n 1, 1) := by decide +kernel
theorem dX11_define_41 : decode cX11_define 41 = .ok (.aload_n 0, 1) := by decide +kernel
theorem dX11_define_42 : decode cX11_define 42 = .ok (.getfield 20, 3) := by decide +kernel
theorem dX11_define_45 : decode cX11_define 45 = .ok (.invokevirtual 46, 3) := by decide +kernel
theorem dX11_define_48 : decode cX11_define 48 = .ok (.aastore, 1) := by decide +kernel
theorem dX11_define_49 : decode cX11_define 49 = .ok (.aload_n 0, 1) := by decide +kernel
theorem dX11_define_50 : decode cX11_define 50 = .ok (.getfield 34, 3) := by decide +kernel
theorem dX11_define_53 : decode cX11_define 53 = .ok (.getfield 78, 3) := by decide +kernel
theorem dX11_define_56 : decode cX11_define 56 = .ok (.iload_n 1, 1) := by decide +kernel
theorem dX11_define_57 : decode cX11_define 57 = .ok (.aaload, 1) := by decide +kernel
theorem dX11_define_58 : decode cX11_define 58 = .ok (.getfield 70, 3) := by decide +kernel
theorem dX11_define_61 : decode cX11_define 61 = .ok (.arraylength, 1) := by decide +kernel
theorem dX11_define_62 : decode cX11_define 62 = .ok (.ireturn, 1) := by decide +kernel
theorem dX11_restart_0 : decode cX11_restart 0 = .ok (.aload_n 0, 1) := by decide +kernel
theorem dX11_restart_1 : decode cX11_restart 1 = .ok (.getfield 34, 3) := by decide +kernel
theorem dX11_restart_4 : decode cX11_restart 4 = .ok (.getfield 82, 3) := by decide +kernel
theorem dX11_restart_7 : decode cX11_restart 7 = .ok (.ifCond .ne 6, 3) := by decide +kernel
theorem dX11_restart_10 : decode cX11_restart 10 = .ok (.bipush (-2), 2) := by decide +kernel
theorem dX11_restart_12 : decode cX11_restart 12 = .ok (.ireturn, 1) := by decide +kernel
theorem dX11_restart_13 : decode cX11_restart 13 = .ok (.aload_n 0, 1) := by decide +kernel
theorem dX11_restart_14 : decode cX11_restart 14 = .ok (.getfield 34, 3) := by decide +kernel
theorem dX11_restart_17 : decode cX11_restart 17 = .ok (.getfield 82, 3) := by decide +kernel
theorem dX11_restart_20 : decode cX11_restart 20 = .ok (.istore_n 1, 1) := by decide +kernel
theorem dX11_restart_21 : decode cX11_restart 21 = .ok (.aload_n 0, 1) := by decide +kernel
theorem dX11_restart_22 : decode cX11_restart 22 = .ok (.getfield 34, 3) := by decide +kernel
theorem dX11_restart_25 : decode cX11_restart 25 = .ok (.invokevirtual 67, 3) := by decide +kernel
theorem dX11_restart_28 : decode cX11_restart 28 = .ok (.iload_n 1, 1) := by decide +kernel
theorem dX11_restart_29 : decode cX11_restart 29 = .ok (.ireturn, 1) := by decide +kernel
theorem dX11_may_0 : decode cX11_may 0 = .ok (.iload_n 1, 1) := by decide +kernel
theorem dX11_may_1 : decode cX11_may 1 = .ok (.iconst (-1), 1) := by decide +kernel
theorem dX11_may_2 : decode cX11_may 2 = .ok (.if_icmp .eq 10, 3) := by decide +kernel
theorem dX11_may_5 : decode cX11_may 5 = .ok (.iload_n 1, 1) := by decide +kernel
theorem dX11_may_6 : decode cX11_may 6 = .ok (.invokestatic 74, 3) := by decide +kernel
theorem dX11_may_9 : decode cX11_may 9 = .ok (.ifCond .eq 19, 3) := by decide +kernel
theorem dX11_may_12 : decode cX11_may 12 = .ok (.iload_n 2, 1) := by decide +kernel
theorem dX11_may_13 : decode cX11_may 13 = .ok (.invokestatic 85, 3) := by decide +kernel
theorem dX11_may_16 : decode cX11_may 16 = .ok (.ifCond .eq 12, 3) := by decide +kernel
theorem dX11_may_19 : decode cX11_may 19 = .ok (.iload_n 3, 1) := by decide +kernel
theorem dX11_may_20 : decode cX11_may 20 = .ok (.ifCond .lt 8, 3) := by decide +kernel
theorem dX11_may_23 : decode cX11_may 23 = .ok (.iload_n 3, 1) := by decide +kernel
theorem dX11_may_24 : decode cX11_may 24 = .ok (.iconst 4, 1) := by decide +kernel
theorem dX11_may_25 : decode cX11_may 25 = .ok (.if_icmp .lt 5, 3) := by decide +kernel
theorem dX11_may_28 : decode cX11_may 28 = .ok (.iconst (-1), 1) := by decide +kernel
theorem dX11_may_29 : decode cX11_may 29 = .ok (.ireturn, 1) := by decide +kernel
theorem dX11_may_30 : decode cX11_may 30 = .ok (.iload_n 1, 1) := by decide +kernel
theorem dX11_may_31 : decode cX11_may 31 = .ok (.iconst (-1), 1) := by decide +kernel
theorem dX11_may_32 : decode cX11_may 32 = .ok (.if_icmp .ne 13, 3) := by decide +kernel
theorem dX11_may_35 : decode cX11_may 35 = .ok (.aload_n 0, 1) := by decide +kernel
theorem dX11_may_36 : decode cX11_may 36 = .ok (.getfield 34, 3) := by decide +kernel
theorem dX11_may_39 : decode cX11_may 39 = .ok (.getfield 63, 3) := by decide +kernel
theorem dX11_may_42 : decode cX11_may 42 = .ok (.goto 12, 3) := by decide +kernel
theorem dX11_may_45 : decode cX11_may 45 = .ok (.aload_n 0, 1) := by decide +kernel
theorem dX11_may_46 : decode cX11_may 46 = .ok (.getfield 34, 3) := by decide +kernel
theorem dX11_may_49 : decode cX11_may 49 = .ok (.getfield 78, 3) := by decide +kernel
theorem dX11_may_52 : decode cX11_may 52 = .ok (.iload_n 1, 1) := by decide +kernel
theorem dX11_may_53 : decode cX11_may 53 = .ok (.aaload, 1) := by decide +kernel
theorem dX11_may_54 : decode cX11_may 54 = .ok (.astore 4, 2) := by decide +kernel
theorem dX11_may_56 : decode cX11_may 56 = .ok (.aload 4, 2) := by decide +kernel
theorem dX11_may_58 : decode cX11_may 58 = .ok (.ifnonnull 6, 3) := by decide +kernel
theorem dX11_may_61 : decode cX11_may 61 = .ok (.bipush (-2), 2) := by decide +kernel
theorem dX11_may_63 : decode cX11_may 63 = .ok (.ireturn, 1) := by decide +kernel
theorem dX11_may_64 : decode cX11_may 64 = .ok (.aload_n 0, 1) := by decide +kernel
theorem dX11_may_65 : decode cX11_may 65 = .ok (.getfield 34, 3) := by decide +kernel
theorem dX11_may_68 : decode cX11_may 68 = .ok (.invokevirtual 88, 3) := by decide +kernel
theorem dX11_may_71 : decode cX11_may 71 = .ok (.aload 4, 2) := by decide +kernel
theorem dX11_may_73 : decode cX11_may 73 = .ok (.getfield 50, 3) := by decide +kernel
theorem dX11_may_76 : decode cX11_may 76 = .ok (.getfield 91, 3) := by decide +kernel
theorem dX11_may_79 : decode cX11_may 79 = .ok (.iload_n 2, 1) := by decide +kernel
theorem dX11_may_80 : decode cX11_may 80 = .ok (.iload_n 3, 1) := by decide +kernel
theorem dX11_may_81 : decode cX11_may 81 = .ok (.invokestatic 96, 3) := by decide +kernel
theorem dX11_may_84 : decode cX11_may 84 = .ok (.iand, 1) := by decide +kernel
theorem dX11_may_85 : decode cX11_may 85 = .ok (.ifCond .eq 7, 3) := by decide +kernel
theorem dX11_may_88 : decode cX11_may 88 = .ok (.iconst 1, 1) := by decide +kernel
theorem dX11_may_89 : decode cX11_may 89 = .ok (.goto 4, 3) := by decide +kernel
theorem dX11_may_92 : decode cX11_may 92 = .ok (.iconst 0, 1) := by decide +kernel
theorem dX11_may_93 : decode cX11_may 93 = .ok (.ireturn, 1) := by decide +kernel
theorem dX11_run_0 : decode cX11_run 0 = .ok (.iload_n 1, 1) := by decide +kernel
theorem dX11_run_1 : decode cX11_run 1 = .ok (.iconst 1, 1) := by decide +kernel
theorem dX11_run_2 : decode cX11_run 2 = .ok (.if_icmp .lt 10, 3) := by decide +kernel
theorem dX11_run_5 : decode cX11_run 5 = .ok (.iload_n 1, 1) := by decide +kernel
theorem dX11_run_6 : decode cX11_run 6 = .ok (.sipush 200, 3) := by decide +kernel
theorem dX11_run_9 : decode cX11_run 9 = .ok (.if_icmp .le 5, 3) := by decide +kernel
theorem dX11_run_12 : decode cX11_run 12 = .ok (.iconst (-1), 1) := by decide +kernel
theorem dX11_run_13 : decode cX11_run 13 = .ok (.ireturn, 1) := by decide +kernel
theorem dX11_run_14 : decode cX11_run 14 = .ok (.aload_n 0, 1) := by decide +kernel
theorem dX11_run_15 : decode cX11_run 15 = .ok (.getfield 34, 3) := by decide +kernel
theorem dX11_run_18 : decode cX11_run 18 = .ok (.getfield 82, 3) := by decide +kernel
theorem dX11_run_21 : decode cX11_run 21 = .ok (.iconst 1, 1) := by decide +kernel
theorem dX11_run_22 : decode cX11_run 22 = .ok (.if_icmp .eq 6, 3) := by decide +kernel
theorem dX11_run_25 : decode cX11_run 25 = .ok (.bipush (-2), 2) := by decide +kernel
theorem dX11_run_27 : decode cX11_run 27 = .ok (.ireturn, 1) := by decide +kernel
theorem dX11_run_28 : decode cX11_run 28 = .ok (.iconst 0, 1) := by decide +kernel
theorem dX11_run_29 : decode cX11_run 29 = .ok (.istore_n 2, 1) := by decide +kernel
theorem dX11_run_30 : decode cX11_run 30 = .ok (.iload_n 2, 1) := by decide +kernel
theorem dX11_run_31 : decode cX11_run 31 = .ok (.iload_n 1, 1) := by decide +kernel
theorem dX11_run_32 : decode cX11_run 32 = .ok (.if_icmp .ge 27, 3) := by decide +kernel
theorem dX11_run_35 : decode cX11_run 35 = .ok (.aload_n 0, 1) := by decide +kernel
theorem dX11_run_36 : decode cX11_run 36 = .ok (.getfield 34, 3) := by decide +kernel
theorem dX11_run_39 : decode cX11_run 39 = .ok (.getfield 82, 3) := by decide +kernel
theorem dX11_run_42 : decode cX11_run 42 = .ok (.iconst 1, 1) := by decide +kernel
theorem dX11_run_43 : decode cX11_run 43 = .ok (.if_icmp .ne 16, 3) := by decide +kernel
theorem dX11_run_46 : decode cX11_run 46 = .ok (.aload_n 0, 1) := by decide +kernel
theorem dX11_run_47 : decode cX11_run 47 = .ok (.getfield 34, 3) := by decide +kernel
theorem dX11_run_50 : decode cX11_run 50 = .ok (.invokevirtual 100, 3) := by decide +kernel
theorem dX11_run_53 : decode cX11_run 53 = .ok (.iinc 2 1, 3) := by decide +kernel
theorem dX11_run_56 : decode cX11_run 56 = .ok (.goto (-26), 3) := by decide +kernel
theorem dX11_run_59 : decode cX11_run 59 = .ok (.aload_n 0, 1) := by decide +kernel
theorem dX11_run_60 : decode cX11_run 60 = .ok (.getfield 34, 3) := by decide +kernel
theorem dX11_run_63 : decode cX11_run 63 = .ok (.getfield 82, 3) := by decide +kernel
theorem dX11_run_66 : decode cX11_run 66 = .ok (.ireturn, 1) := by decide +kernel
theorem dX11_answer_0 : decode cX11_answer 0 = .ok (.aload_n 0, 1) := by decide +kernel
theorem dX11_answer_1 : decode cX11_answer 1 = .ok (.getfield 34, 3) := by decide +kernel
theorem dX11_answer_4 : decode cX11_answer 4 = .ok (.getfield 82, 3) := by decide +kernel
theorem dX11_answer_7 : decode cX11_answer 7 = .ok (.iconst 3, 1) := by decide +kernel
theorem dX11_answer_8 : decode cX11_answer 8 = .ok (.if_icmp .eq 6, 3) := by decide +kernel
theorem dX11_answer_11 : decode cX11_answer 11 = .ok (.bipush (-2), 2) := by decide +kernel
theorem dX11_answer_13 : decode cX11_answer 13 = .ok (.ireturn, 1) := by decide +kernel
theorem dX11_answer_14 : decode cX11_answer 14 = .ok (.aload_n 0, 1) := by decide +kernel
theorem dX11_answer_15 : decode cX11_answer 15 = .ok (.getfield 34, 3) := by decide +kernel
theorem dX11_answer_18 : decode cX11_answer 18 = .ok (.iload_n 1, 1) := by decide +kernel
theorem dX11_answer_19 : decode cX11_answer 19 = .ok (.invokevirtual 103, 3) := by decide +kernel
theorem dX11_answer_22 : decode cX11_answer 22 = .ok (.aload_n 0, 1) := by decide +kernel
theorem dX11_answer_23 : decode cX11_answer 23 = .ok (.getfield 34, 3) := by decide +kernel
theorem dX11_answer_26 : decode cX11_answer 26 = .ok (.getfield 107, 3) := by decide +kernel
theorem dX11_answer_29 : decode cX11_answer 29 = .ok (.getfield 111, 3) := by decide +kernel
theorem dX11_answer_32 : decode cX11_answer 32 = .ok (.ireturn, 1) := by decide +kernel
theorem dX11_drop_0 : decode cX11_drop 0 = .ok (.aload_n 0, 1) := by decide +kernel
theorem dX11_drop_1 : decode cX11_drop 1 = .ok (.getfield 34, 3) := by decide +kernel
theorem dX11_drop_4 : decode cX11_drop 4 = .ok (.getfield 82, 3) := by decide +kernel
theorem dX11_drop_7 : decode cX11_drop 7 = .ok (.iconst 3, 1) := by decide +kernel
theorem dX11_drop_8 : decode cX11_drop 8 = .ok (.if_icmp .eq 6, 3) := by decide +kernel
theorem dX11_drop_11 : decode cX11_drop 11 = .ok (.bipush (-2), 2) := by decide +kernel
theorem dX11_drop_13 : decode cX11_drop 13 = .ok (.ireturn, 1) := by decide +kernel
theorem dX11_drop_14 : decode cX11_drop 14 = .ok (.aload_n 0, 1) := by decide +kernel
theorem dX11_drop_15 : decode cX11_drop 15 = .ok (.getfield 34, 3) := by decide +kernel
theorem dX11_drop_18 : decode cX11_drop 18 = .ok (.getfield 107, 3) := by decide +kernel
theorem dX11_drop_21 : decode cX11_drop 21 = .ok (.getfield 111, 3) := by decide +kernel
theorem dX11_drop_24 : decode cX11_drop 24 = .ok (.istore_n 2, 1) := by decide +kernel
theorem dX11_drop_25 : decode cX11_drop 25 = .ok (.aload_n 0, 1) := by decide +kernel
theorem dX11_drop_26 : decode cX11_drop 26 = .ok (.getfield 34, 3) := by decide +kernel
theorem dX11_drop_29 : decode cX11_drop 29 = .ok (.iconst 0, 1) := by decide +kernel
theorem dX11_drop_30 : decode cX11_drop 30 = .ok (.invokevirtual 116, 3) := by decide +kernel
theorem dX11_drop_33 : decode cX11_drop 33 = .ok (.pop, 1) := by decide +kernel
theorem dX11_drop_34 : decode cX11_drop 34 = .ok (.aload_n 0, 1) := by decide +kernel
theorem dX11_drop_35 : decode cX11_drop 35 = .ok (.getfield 34, 3) := by decide +kernel
theorem dX11_drop_38 : decode cX11_drop 38 = .ok (.iload_n 1, 1) := by decide +kernel
theorem dX11_drop_39 : decode cX11_drop 39 = .ok (.invokevirtual 103, 3) := by decide +kernel
theorem dX11_drop_42 : decode cX11_drop 42 = .ok (.iload_n 2, 1) := by decide +kernel
theorem dX11_drop_43 : decode cX11_drop 43 = .ok (.ireturn, 1) := by decide +kernel
theorem dX11_told_0 : decode cX11_told 0 = .ok (.iload_n 1, 1) := by decide +kernel
theorem dX11_told_1 : decode cX11_told 1 = .ok (.tableswitch 202 0 12 #[67, 75, 83, 94, 105, 113, 121, 132, 143, 154, 165, 189, 194], 67) := by decide +kernel
theorem dX11_told_68 : decode cX11_told 68 = .ok (.aload_n 0, 1) := by decide +kernel
theorem dX11_told_69 : decode cX11_told 69 = .ok (.getfield 34, 3) := by decide +kernel
theorem dX11_told_72 : decode cX11_told 72 = .ok (.getfield 82, 3) := by decide +kernel
theorem dX11_told_75 : decode cX11_told 75 = .ok (.ireturn, 1) := by decide +kernel
theorem dX11_told_76 : decode cX11_told 76 = .ok (.aload_n 0, 1) := by decide +kernel
theorem dX11_told_77 : decode cX11_told 77 = .ok (.getfield 34, 3) := by decide +kernel
theorem dX11_told_80 : decode cX11_told 80 = .ok (.getfield 120, 3) := by decide +kernel
theorem dX11_told_83 : decode cX11_told 83 = .ok (.ireturn, 1) := by decide +kernel
theorem dX11_told_84 : decode cX11_told 84 = .ok (.aload_n 0, 1) := by decide +kernel
theorem dX11_told_85 : decode cX11_told 85 = .ok (.getfield 34, 3) := by decide +kernel
theorem dX11_told_88 : decode cX11_told 88 = .ok (.getfield 107, 3) := by decide +kernel
theorem dX11_told_91 : decode cX11_told 91 = .ok (.getfield 111, 3) := by decide +kernel
theorem dX11_told_94 : decode cX11_told 94 = .ok (.ireturn, 1) := by decide +kernel
theorem dX11_told_95 : decode cX11_told 95 = .ok (.aload_n 0, 1) := by decide +kernel
theorem dX11_told_96 : decode cX11_told 96 = .ok (.getfield 34, 3) := by decide +kernel
theorem dX11_told_99 : decode cX11_told 99 = .ok (.getfield 107, 3) := by decide +kernel
theorem dX11_told_102 : decode cX11_told 102 = .ok (.getfield 123, 3) := by decide +kernel
theorem dX11_told_105 : decode cX11_told 105 = .ok (.ireturn, 1) := by decide +kernel
theorem dX11_told_106 : decode cX11_told 106 = .ok (.aload_n 0, 1) := by decide +kernel
theorem dX11_told_107 : decode cX11_told 107 = .ok (.getfield 34, 3) := by decide +kernel
theorem dX11_told_110 : decode cX11_told 110 = .ok (.getfield 126, 3) := by decide +kernel
theorem dX11_told_113 : decode cX11_told 113 = .ok (.ireturn, 1) := by decide +kernel
theorem dX11_told_114 : decode cX11_told 114 = .ok (.aload_n 0, 1) := by decide +kernel
theorem dX11_told_115 : decode cX11_told 115 = .ok (.getfield 34, 3) := by decide +kernel
theorem dX11_told_118 : decode cX11_told 118 = .ok (.invokevirtual 129, 3) := by decide +kernel
theorem dX11_told_121 : decode cX11_told 121 = .ok (.ireturn, 1) := by decide +kernel
theorem dX11_told_122 : decode cX11_told 122 = .ok (.aload_n 0, 1) := by decide +kernel
theorem dX11_told_123 : decode cX11_told 123 = .ok (.getfield 34, 3) := by decide +kernel
theorem dX11_told_126 : decode cX11_told 126 = .ok (.getfield 133, 3) := by decide +kernel
theorem dX11_told_129 : decode cX11_told 129 = .ok (.getfield 137, 3) := by decide +kernel
theorem dX11_told_132 : decode cX11_told 132 = .ok (.ireturn, 1) := by decide +kernel
theorem dX11_told_133 : decode cX11_told 133 = .ok (.aload_n 0, 1) := by decide +kernel
theorem dX11_told_134 : decode cX11_told 134 = .ok (.getfield 34, 3) := by decide +kernel
theorem dX11_told_137 : decode cX11_told 137 = .ok (.getfield 133, 3) := by decide +kernel
theorem dX11_told_140 : decode cX11_told 140 = .ok (.getfield 142, 3) := by decide +kernel
theorem dX11_told_143 : decode cX11_told 143 = .ok (.ireturn, 1) := by decide +kernel
theorem dX11_told_144 : decode cX11_told 144 = .ok (.aload_n 0, 1) := by decide +kernel
theorem dX11_told_145 : decode cX11_told 145 = .ok (.getfield 34, 3) := by decide +kernel
theorem dX11_told_148 : decode cX11_told 148 = .ok (.getfield 133, 3) := by decide +kernel
theorem dX11_told_151 : decode cX11_told 151 = .ok (.getfield 145, 3) := by decide +kernel
theorem dX11_told_154 : decode cX11_told 154 = .ok (.ireturn, 1) := by decide +kernel
theorem dX11_told_155 : decode cX11_told 155 = .ok (.aload_n 0, 1) := by decide +kernel
theorem dX11_told_156 : decode cX11_told 156 = .ok (.getfield 34, 3) := by decide +kernel
theorem dX11_told_159 : decode cX11_told 159 = .ok (.getfield 133, 3) := by decide +kernel
theorem dX11_told_162 : decode cX11_told 162 = .ok (.getfield 148, 3) := by decide +kernel
theorem dX11_told_165 : decode cX11_told 165 = .ok (.ireturn, 1) := by decide +kernel
theorem dX11_told_166 : decode cX11_told 166 = .ok (.aload_n 0, 1) := by decide +kernel
theorem dX11_told_167 : decode cX11_told 167 = .ok (.getfield 34, 3) := by decide +kernel
theorem dX11_told_170 : decode cX11_told 170 = .ok (.getfield 82, 3) := by decide +kernel
theorem dX11_told_173 : decode cX11_told 173 = .ok (.iconst 3, 1) := by decide +kernel
theorem dX11_told_174 : decode cX11_told 174 = .ok (.if_icmp .ne 13, 3) := by decide +kernel
theorem dX11_told_177 : decode cX11_told 177 = .ok (.aload_n 0, 1) := by decide +kernel
theorem dX11_told_178 : decode cX11_told 178 = .ok (.getfield 34, 3) := by decide +kernel
theorem dX11_told_181 : decode cX11_told 181 = .ok (.getfield 151, 3) := by decide +kernel
theorem dX11_told_184 : decode cX11_told 184 = .ok (.goto 5, 3) := by decide +kernel
theorem dX11_told_187 : decode cX11_told 187 = .ok (.bipush (-9), 2) := by decide +kernel
theorem dX11_told_189 : decode cX11_told 189 = .ok (.ireturn, 1) := by decide +kernel
theorem dX11_told_190 : decode cX11_told 190 = .ok (.aload_n 0, 1) := by decide +kernel
theorem dX11_told_191 : decode cX11_told 191 = .ok (.getfield 13, 3) := by decide +kernel
theorem dX11_told_194 : decode cX11_told 194 = .ok (.ireturn, 1) := by decide +kernel
theorem dX11_told_195 : decode cX11_told 195 = .ok (.aload_n 0, 1) := by decide +kernel
theorem dX11_told_196 : decode cX11_told 196 = .ok (.getfield 34, 3) := by decide +kernel
theorem dX11_told_199 : decode cX11_told 199 = .ok (.invokevirtual 154, 3) := by decide +kernel
theorem dX11_told_202 : decode cX11_told 202 = .ok (.ireturn, 1) := by decide +kernel
theorem dX11_told_203 : decode cX11_told 203 = .ok (.iconst (-1), 1) := by decide +kernel
theorem dX11_told_204 : decode cX11_told 204 = .ok (.ireturn, 1) := by decide +kernel
theorem dX11_value_0 : decode cX11_value 0 = .ok (.aload_n 0, 1) := by decide +kernel
theorem dX11_value_1 : decode cX11_value 1 = .ok (.getfield 34, 3) := by decide +kernel
theorem dX11_value_4 : decode cX11_value 4 = .ok (.getfield 82, 3) := by decide +kernel
theorem dX11_value_7 : decode cX11_value 7 = .ok (.iconst 2, 1) := by decide +kernel
theorem dX11_value_8 : decode cX11_value 8 = .ok (.if_icmp .eq 35, 3) := by decide +kernel
theorem dX11_value_11 : decode cX11_value 11 = .ok (.aload_n 0, 1) := by decide +kernel
theorem dX11_value_12 : decode cX11_value 12 = .ok (.getfield 34, 3) := by decide +kernel
theorem dX11_value_15 : decode cX11_value 15 = .ok (.getfield 82, 3) := by decide +kernel
theorem dX11_value_18 : decode cX11_value 18 = .ok (.iconst 3, 1) := by decide +kernel
theorem dX11_value_19 : decode cX11_value 19 = .ok (.if_icmp .eq 24, 3) := by decide +kernel
theorem dX11_value_22 : decode cX11_value 22 = .ok (.aload_n 0, 1) := by decide +kernel
theorem dX11_value_23 : decode cX11_value 23 = .ok (.getfield 34, 3) := by decide +kernel
theorem dX11_value_26 : decode cX11_value 26 = .ok (.getfield 82, 3) := by decide +kernel
theorem dX11_value_29 : decode cX11_value 29 = .ok (.iconst 1, 1) := by decide +kernel
theorem dX11_value_30 : decode cX11_value 30 = .ok (.if_icmp .ne 17, 3) := by decide +kernel
theorem dX11_value_33 : decode cX11_value 33 = .ok (.aload_n 0, 1) := by decide +kernel
theorem dX11_value_34 : decode cX11_value 34 = .ok (.getfield 34, 3) := by decide +kernel
theorem dX11_value_37 : decode cX11_value 37 = .ok (.getfield 157, 3) := by decide +kernel
theorem dX11_value_40 : decode cX11_value 40 = .ok (.ifnonnull 7, 3) := by decide +kernel
theorem dX11_value_43 : decode cX11_value 43 = .ok (.iconst 1, 1) := by decide +kernel
theorem dX11_value_44 : decode cX11_value 44 = .ok (.goto 4, 3) := by decide +kernel
theorem dX11_value_47 : decode cX11_value 47 = .ok (.iconst 0, 1) := by decide +kernel
theorem dX11_value_48 : decode cX11_value 48 = .ok (.istore_n 1, 1) := by decide +kernel
theorem dX11_value_49 : decode cX11_value 49 = .ok (.iload_n 1, 1) := by decide +kernel
theorem dX11_value_50 : decode cX11_value 50 = .ok (.ifCond .eq 13, 3) := by decide +kernel
theorem dX11_value_53 : decode cX11_value 53 = .ok (.aload_n 0, 1) := by decide +kernel
theorem dX11_value_54 : decode cX11_value 54 = .ok (.getfield 34, 3) := by decide +kernel
theorem dX11_value_57 : decode cX11_value 57 = .ok (.getfield 160, 3) := by decide +kernel
theorem dX11_value_60 : decode cX11_value 60 = .ok (.goto 4, 3) := by decide +kernel
theorem dX11_value_63 : decode cX11_value 63 = .ok (.iconst 0, 1) := by decide +kernel
theorem dX11_value_64 : decode cX11_value 64 = .ok (.ireturn, 1) := by decide +kernel
theorem dX11_focus_0 : decode cX11_focus 0 = .ok (.aload_n 0, 1) := by decide +kernel
theorem dX11_focus_1 : decode cX11_focus 1 = .ok (.getfield 34, 3) := by decide +kernel
theorem dX11_focus_4 : decode cX11_focus 4 = .ok (.getfield 82, 3) := by decide +kernel
theorem dX11_focus_7 : decode cX11_focus 7 = .ok (.iconst 1, 1) := by decide +kernel
theorem dX11_focus_8 : decode cX11_focus 8 = .ok (.if_icmp .eq 5, 3) := by decide +kernel
theorem dX11_focus_11 : decode cX11_focus 11 = .ok (.iconst 0, 1) := by decide +kernel
theorem dX11_focus_12 : decode cX11_focus 12 = .ok (.ireturn, 1) := by decide +kernel
theorem dX11_focus_13 : decode cX11_focus 13 = .ok (.aload_n 0, 1) := by decide +kernel
theorem dX11_focus_14 : decode cX11_focus 14 = .ok (.getfield 34, 3) := by decide +kernel
theorem dX11_focus_17 : decode cX11_focus 17 = .ok (.getfield 157, 3) := by decide +kernel
theorem dX11_focus_20 : decode cX11_focus 20 = .ok (.ifnonnull 7, 3) := by decide +kernel
theorem dX11_focus_23 : decode cX11_focus 23 = .ok (.iconst 1, 1) := by decide +kernel
theorem dX11_focus_24 : decode cX11_focus 24 = .ok (.goto 4, 3) := by decide +kernel
theorem dX11_focus_27 : decode cX11_focus 27 = .ok (.iconst 2, 1) := by decide +kernel
theorem dX11_focus_28 : decode cX11_focus 28 = .ok (.ireturn, 1) := by decide +kernel
theorem dX11_trace_0 : decode cX11_trace 0 = .ok (.iload_n 1, 1) := by decide +kernel
theorem dX11_trace_1 : decode cX11_trace 1 = .ok (.ifCond .ge 5, 3) := by decide +kernel
theorem dX11_trace_4 : decode cX11_trace 4 = .ok (.iconst (-1), 1) := by decide +kernel
theorem dX11_trace_5 : decode cX11_trace 5 = .ok (.ireturn, 1) := by decide +kernel
theorem dX11_trace_6 : decode cX11_trace 6 = .ok (.iload_n 1, 1) := by decide +kernel
theorem dX11_trace_7 : decode cX11_trace 7 = .ok (.aload_n 0, 1) := by decide +kernel
theorem dX11_trace_8 : decode cX11_trace 8 = .ok (.getfield 34, 3) := by decide +kernel
theorem dX11_trace_11 : decode cX11_trace 11 = .ok (.getfield 126, 3) := by decide +kernel
theorem dX11_trace_14 : decode cX11_trace 14 = .ok (.if_icmp .ge 15, 3) := by decide +kernel
theorem dX11_trace_17 : decode cX11_trace 17 = .ok (.aload_n 0, 1) := by decide +kernel
theorem dX11_trace_18 : decode cX11_trace 18 = .ok (.getfield 34, 3) := by decide +kernel
theorem dX11_trace_21 : decode cX11_trace 21 = .ok (.getfield 163, 3) := by decide +kernel
theorem dX11_trace_24 : decode cX11_trace 24 = .ok (.iload_n 1, 1) := by decide +kernel
theorem dX11_trace_25 : decode cX11_trace 25 = .ok (.iaload, 1) := by decide +kernel
theorem dX11_trace_26 : decode cX11_trace 26 = .ok (.goto 5, 3) := by decide +kernel
theorem dX11_trace_29 : decode cX11_trace 29 = .ok (.bipush (-9), 2) := by decide +kernel
theorem dX11_trace_31 : decode cX11_trace 31 = .ok (.ireturn, 1) := by decide +kernel
theorem dX11_performed_0 : decode cX11_performed 0 = .ok (.iload_n 1, 1) := by decide +kernel
theorem dX11_performed_1 : decode cX11_performed 1 = .ok (.invokestatic 85, 3) := by decide +kernel
theorem dX11_performed_4 : decode cX11_performed 4 = .ok (.ifCond .ne 5, 3) := by decide +kernel
theorem dX11_performed_7 : decode cX11_performed 7 = .ok (.iconst (-1), 1) := by decide +kernel
theorem dX11_performed_8 : decode cX11_performed 8 = .ok (.ireturn, 1) := by decide +kernel
theorem dX11_performed_9 : decode cX11_performed 9 = .ok (.aload_n 0, 1) := by decide +kernel
theorem dX11_performed_10 : decode cX11_performed 10 = .ok (.getfield 34, 3) := by decide +kernel
theorem dX11_performed_13 : decode cX11_performed 13 = .ok (.getfield 166, 3) := by decide +kernel
theorem dX11_performed_16 : decode cX11_performed 16 = .ok (.iload_n 1, 1) := by decide +kernel
theorem dX11_performed_17 : decode cX11_performed 17 = .ok (.iaload, 1) := by decide +kernel
theorem dX11_performed_18 : decode cX11_performed 18 = .ok (.ireturn, 1) := by decide +kernel
theorem dX11_frame_0 : decode cX11_frame 0 = .ok (.aload_n 0, 1) := by decide +kernel
theorem dX11_frame_1 : decode cX11_frame 1 = .ok (.getfield 34, 3) := by decide +kernel
theorem dX11_frame_4 : decode cX11_frame 4 = .ok (.getfield 107, 3) := by decide +kernel
theorem dX11_frame_7 : decode cX11_frame 7 = .ok (.iload_n 1, 1) := by decide +kernel
theorem dX11_frame_8 : decode cX11_frame 8 = .ok (.invokevirtual 169, 3) := by decide +kernel
theorem dX11_frame_11 : decode cX11_frame 11 = .ok (.astore_n 3, 1) := by decide +kernel
theorem dX11_frame_12 : decode cX11_frame 12 = .ok (.aload_n 3, 1) := by decide +kernel
theorem dX11_frame_13 : decode cX11_frame 13 = .ok (.ifnull 12, 3) := by decide +kernel
theorem dX11_frame_16 : decode cX11_frame 16 = .ok (.iload_n 2, 1) := by decide +kernel
theorem dX11_frame_17 : decode cX11_frame 17 = .ok (.ifCond .eq 10, 3) := by decide +kernel
theorem dX11_frame_20 : decode cX11_frame 20 = .ok (.iload_n 2, 1) := by decide +kernel
theorem dX11_frame_21 : decode cX11_frame 21 = .ok (.iconst 1, 1) := by decide +kernel
theorem dX11_frame_22 : decode cX11_frame 22 = .ok (.if_icmp .eq 5, 3) := by decide +kernel
theorem dX11_frame_25 : decode cX11_frame 25 = .ok (.iconst (-1), 1) := by decide +kernel
theorem dX11_frame_26 : decode cX11_frame 26 = .ok (.ireturn, 1) := by decide +kernel
theorem dX11_frame_27 : decode cX11_frame 27 = .ok (.iload_n 2, 1) := by decide +kernel
theorem dX11_frame_28 : decode cX11_frame 28 = .ok (.ifCond .ne 10, 3) := by decide +kernel
theorem dX11_frame_31 : decode cX11_frame 31 = .ok (.aload_n 3, 1) := by decide +kernel
theorem dX11_frame_32 : decode cX11_frame 32 = .ok (.getfield 173, 3) := by decide +kernel
theorem dX11_frame_35 : decode cX11_frame 35 = .ok (.goto 11, 3) := by decide +kernel
theorem dX11_frame_38 : decode cX11_frame 38 = .ok (.aload_n 0, 1) := by decide +kernel
theorem dX11_frame_39 : decode cX11_frame 39 = .ok (.getfield 34, 3) := by decide +kernel
theorem dX11_frame_42 : decode cX11_frame 42 = .ok (.aload_n 3, 1) := by decide +kernel
theorem dX11_frame_43 : decode cX11_frame 43 = .ok (.invokevirtual 178, 3) := by decide +kernel
theorem dX11_frame_46 : decode cX11_frame 46 = .ok (.ireturn, 1) := by decide +kernel
theorem dX11_handler_0 : decode cX11_handler 0 = .ok (.iload_n 1, 1) := by decide +kernel
theorem dX11_handler_1 : decode cX11_handler 1 = .ok (.invokestatic 85, 3) := by decide +kernel
theorem dX11_handler_4 : decode cX11_handler 4 = .ok (.ifCond .ne 5, 3) := by decide +kernel
theorem dX11_handler_7 : decode cX11_handler 7 = .ok (.iconst (-1), 1) := by decide +kernel
theorem dX11_handler_8 : decode cX11_handler 8 = .ok (.ireturn, 1) := by decide +kernel
theorem dX11_handler_9 : decode cX11_handler 9 = .ok (.aload_n 0, 1) := by decide +kernel
theorem dX11_handler_10 : decode cX11_handler 10 = .ok (.getfield 34, 3) := by decide +kernel
theorem dX11_handler_13 : decode cX11_handler 13 = .ok (.getfield 107, 3) := by decide +kernel
theorem dX11_handler_16 : decode cX11_handler 16 = .ok (.iload_n 1, 1) := by decide +kernel
theorem dX11_handler_17 : decode cX11_handler 17 = .ok (.invokevirtual 182, 3) := by decide +kernel
theorem dX11_handler_20 : decode cX11_handler 20 = .ok (.istore_n 2, 1) := by decide +kernel
theorem dX11_handler_21 : decode cX11_handler 21 = .ok (.iload_n 2, 1) := by decide +kernel
theorem dX11_handler_22 : decode cX11_handler 22 = .ok (.ifCond .ge 8, 3) := by decide +kernel
theorem dX11_handler_25 : decode cX11_handler 25 = .ok (.bipush (-9), 2) := by decide +kernel
theorem dX11_handler_27 : decode cX11_handler 27 = .ok (.goto 17, 3) := by decide +kernel
theorem dX11_handler_30 : decode cX11_handler 30 = .ok (.aload_n 0, 1) := by decide +kernel
theorem dX11_handler_31 : decode cX11_handler 31 = .ok (.getfield 34, 3) := by decide +kernel
theorem dX11_handler_34 : decode cX11_handler 34 = .ok (.getfield 107, 3) := by decide +kernel
theorem dX11_handler_37 : decode cX11_handler 37 = .ok (.getfield 111, 3) := by decide +kernel
theorem dX11_handler_40 : decode cX11_handler 40 = .ok (.iconst 1, 1) := by decide +kernel
theorem dX11_handler_41 : decode cX11_handler 41 = .ok (.isub, 1) := by decide +kernel
theorem dX11_handler_42 : decode cX11_handler 42 = .ok (.iload_n 2, 1) := by decide +kernel
theorem dX11_handler_43 : decode cX11_handler 43 = .ok (.isub, 1) := by decide +kernel
theorem dX11_handler_44 : decode cX11_handler 44 = .ok (.ireturn, 1) := by decide +kernel
theorem dX11_keep_0 : decode cX11_keep 0 = .ok (.iload_n 1, 1) := by decide +kernel
theorem dX11_keep_1 : decode cX11_keep 1 = .ok (.invokestatic 186, 3) := by decide +kernel
theorem dX11_keep_4 : decode cX11_keep 4 = .ok (.ifCond .ne 5, 3) := by decide +kernel
theorem dX11_keep_7 : decode cX11_keep 7 = .ok (.iconst (-1), 1) := by decide +kernel
theorem dX11_keep_8 : decode cX11_keep 8 = .ok (.ireturn, 1) := by decide +kernel
theorem dX11_keep_9 : decode cX11_keep 9 = .ok (.aload_n 0, 1) := by decide +kernel
theorem dX11_keep_10 : decode cX11_keep 10 = .ok (.getfield 38, 3) := by decide +kernel
theorem dX11_keep_13 : decode cX11_keep 13 = .ok (.iload_n 1, 1) := by decide +kernel
theorem dX11_keep_14 : decode cX11_keep 14 = .ok (.aaload, 1) := by decide +kernel
theorem dX11_keep_15 : decode cX11_keep 15 = .ok (.ifnonnull 16, 3) := by decide +kernel
theorem dX11_keep_18 : decode cX11_keep 18 = .ok (.aload_n 0, 1) := by decide +kernel
theorem dX11_keep_19 : decode cX11_keep 19 = .ok (.getfield 38, 3) := by decide +kernel
theorem dX11_keep_22 : decode cX11_keep 22 = .ok (.iload_n 1, 1) := by decide +kernel
theorem dX11_keep_23 : decode cX11_keep 23 = .ok (.new 31, 3) := by decide +kernel
theorem dX11_keep_26 : decode cX11_keep 26 = .ok (.dup, 1) := by decide +kernel
theorem dX11_keep_27 : decode cX11_keep 27 = .ok (.invokespecial 33, 3) := by decide +kernel
theorem dX11_keep_30 : decode cX11_keep 30 = .ok (.aastore, 1) := by decide +kernel
theorem dX11_keep_31 : decode cX11_keep 31 = .ok (.aload_n 0, 1) := by decide +kernel
theorem dX11_keep_32 : decode cX11_keep 32 = .ok (.getfield 38, 3) := by decide +kernel
theorem dX11_keep_35 : decode cX11_keep 35 = .ok (.iload_n 1, 1) := by decide +kernel
theorem dX11_keep_36 : decode cX11_keep 36 = .ok (.aaload, 1) := by decide +kernel
theorem dX11_keep_37 : decode cX11_keep 37 = .ok (.aload_n 0, 1) := by decide +kernel
theorem dX11_keep_38 : decode cX11_keep 38 = .ok (.getfield 34, 3) := by decide +kernel
theorem dX11_keep_41 : decode cX11_keep 41 = .ok (.invokevirtual 189, 3) := by decide +kernel
theorem dX11_keep_44 : decode cX11_keep 44 = .ok (.aload_n 0, 1) := by decide +kernel
theorem dX11_keep_45 : decode cX11_keep 45 = .ok (.getfield 34, 3) := by decide +kernel
theorem dX11_keep_48 : decode cX11_keep 48 = .ok (.getfield 82, 3) := by decide +kernel
theorem dX11_keep_51 : decode cX11_keep 51 = .ok (.ireturn, 1) := by decide +kernel
theorem dX11_back_0 : decode cX11_back 0 = .ok (.iload_n 1, 1) := by decide +kernel
theorem dX11_back_1 : decode cX11_back 1 = .ok (.invokestatic 186, 3) := by decide +kernel
theorem dX11_back_4 : decode cX11_back 4 = .ok (.ifCond .ne 5, 3) := by decide +kernel
theorem dX11_back_7 : decode cX11_back 7 = .ok (.iconst (-1), 1) := by decide +kernel
theorem dX11_back_8 : decode cX11_back 8 = .ok (.ireturn, 1) := by decide +kernel
theorem dX11_back_9 : decode cX11_back 9 = .ok (.aload_n 0, 1) := by decide +kernel
theorem dX11_back_10 : decode cX11_back 10 = .ok (.getfield 38, 3) := by decide +kernel
theorem dX11_back_13 : decode cX11_back 13 = .ok (.iload_n 1, 1) := by decide +kernel
theorem dX11_back_14 : decode cX11_back 14 = .ok (.aaload, 1) := by decide +kernel
theorem dX11_back_15 : decode cX11_back 15 = .ok (.ifnonnull 6, 3) := by decide +kernel
theorem dX11_back_18 : decode cX11_back 18 = .ok (.bipush (-2), 2) := by decide +kernel
theorem dX11_back_20 : decode cX11_back 20 = .ok (.ireturn, 1) := by decide +kernel
theorem dX11_back_21 : decode cX11_back 21 = .ok (.aload_n 0, 1) := by decide +kernel
theorem dX11_back_22 : decode cX11_back 22 = .ok (.getfield 34, 3) := by decide +kernel
theorem dX11_back_25 : decode cX11_back 25 = .ok (.aload_n 0, 1) := by decide +kernel
theorem dX11_back_26 : decode cX11_back 26 = .ok (.getfield 38, 3) := by decide +kernel
theorem dX11_back_29 : decode cX11_back 29 = .ok (.iload_n 1, 1) := by decide +kernel
theorem dX11_back_30 : decode cX11_back 30 = .ok (.aaload, 1) := by decide +kernel
theorem dX11_back_31 : decode cX11_back 31 = .ok (.invokevirtual 189, 3) := by decide +kernel
theorem dX11_back_34 : decode cX11_back 34 = .ok (.aload_n 0, 1) := by decide +kernel
theorem dX11_back_35 : decode cX11_back 35 = .ok (.getfield 34, 3) := by decide +kernel
theorem dX11_back_38 : decode cX11_back 38 = .ok (.getfield 82, 3) := by decide +kernel
theorem dX11_back_41 : decode cX11_back 41 = .ok (.ireturn, 1) := by decide +kernel
theorem dX11_isOperation_0 : decode cX11_isOperation 0 = .ok (.iload_n 0, 1) := by decide +kernel
theorem dX11_isOperation_1 : decode cX11_isOperation 1 = .ok (.ifCond .lt 13, 3) := by decide +kernel
theorem dX11_isOperation_4 : decode cX11_isOperation 4 = .ok (.iload_n 0, 1) := by decide +kernel
theorem dX11_isOperation_5 : decode cX11_isOperation 5 = .ok (.bipush 6, 2) := by decide +kernel
theorem dX11_isOperation_7 : decode cX11_isOperation 7 = .ok (.if_icmp .ge 7, 3) := by decide +kernel
theorem dX11_isOperation_10 : decode cX11_isOperation 10 = .ok (.iconst 1, 1) := by decide +kernel
theorem dX11_isOperation_11 : decode cX11_isOperation 11 = .ok (.goto 4, 3) := by decide +kernel
theorem dX11_isOperation_14 : decode cX11_isOperation 14 = .ok (.iconst 0, 1) := by decide +kernel
theorem dX11_isOperation_15 : decode cX11_isOperation 15 = .ok (.ireturn, 1) := by decide +kernel
theorem dX11_isProcedure_0 : decode cX11_isProcedure 0 = .ok (.iload_n 0, 1) := by decide +kernel
theorem dX11_isProcedure_1 : decode cX11_isProcedure 1 = .ok (.ifCond .lt 12, 3) := by decide +kernel
theorem dX11_isProcedure_4 : decode cX11_isProcedure 4 = .ok (.iload_n 0, 1) := by decide +kernel
theorem dX11_isProcedure_5 : decode cX11_isProcedure 5 = .ok (.iconst 4, 1) := by decide +kernel
theorem dX11_isProcedure_6 : decode cX11_isProcedure 6 = .ok (.if_icmp .ge 7, 3) := by decide +kernel
theorem dX11_isProcedure_9 : decode cX11_isProcedure 9 = .ok (.iconst 1, 1) := by decide +kernel
theorem dX11_isProcedure_10 : decode cX11_isProcedure 10 = .ok (.goto 4, 3) := by decide +kernel
theorem dX11_isProcedure_13 : decode cX11_isProcedure 13 = .ok (.iconst 0, 1) := by decide +kernel
theorem dX11_isProcedure_14 : decode cX11_isProcedure 14 = .ok (.ireturn, 1) := by decide +kernel
theorem dX11_isImage_0 : decode cX11_isImage 0 = .ok (.iload_n 0, 1) := by decide +kernel
theorem dX11_isImage_1 : decode cX11_isImage 1 = .ok (.ifCond .lt 12, 3) := by decide +kernel
theorem dX11_isImage_4 : decode cX11_isImage 4 = .ok (.iload_n 0, 1) := by decide +kernel
theorem dX11_isImage_5 : decode cX11_isImage 5 = .ok (.iconst 2, 1) := by decide +kernel
theorem dX11_isImage_6 : decode cX11_isImage 6 = .ok (.if_icmp .ge 7, 3) := by decide +kernel
theorem dX11_isImage_9 : decode cX11_isImage 9 = .ok (.iconst 1, 1) := by decide +kernel
theorem dX11_isImage_10 : decode cX11_isImage 10 = .ok (.goto 4, 3) := by decide +kernel
theorem dX11_isImage_13 : decode cX11_isImage 13 = .ok (.iconst 0, 1) := by decide +kernel
theorem dX11_isImage_14 : decode cX11_isImage 14 = .ok (.ireturn, 1) := by decide +kernel
theorem dX11_isDigit_0 : decode cX11_isDigit 0 = .ok (.iload_n 0, 1) := by decide +kernel
theorem dX11_isDigit_1 : decode cX11_isDigit 1 = .ok (.bipush 48, 2) := by decide +kernel
theorem dX11_isDigit_3 : decode cX11_isDigit 3 = .ok (.if_icmp .lt 13, 3) := by decide +kernel
theorem dX11_isDigit_6 : decode cX11_isDigit 6 = .ok (.iload_n 0, 1) := by decide +kernel
theorem dX11_isDigit_7 : decode cX11_isDigit 7 = .ok (.bipush 57, 2) := by decide +kernel
theorem dX11_isDigit_9 : decode cX11_isDigit 9 = .ok (.if_icmp .gt 7, 3) := by decide +kernel
theorem dX11_isDigit_12 : decode cX11_isDigit 12 = .ok (.iconst 1, 1) := by decide +kernel
theorem dX11_isDigit_13 : decode cX11_isDigit 13 = .ok (.goto 4, 3) := by decide +kernel
theorem dX11_isDigit_16 : decode cX11_isDigit 16 = .ok (.iconst 0, 1) := by decide +kernel
theorem dX11_isDigit_17 : decode cX11_isDigit 17 = .ok (.ireturn, 1) := by decide +kernel
theorem dX11_isLetter_0 : decode cX11_isLetter 0 = .ok (.iload_n 0, 1) := by decide +kernel
theorem dX11_isLetter_1 : decode cX11_isLetter 1 = .ok (.bipush 97, 2) := by decide +kernel
theorem dX11_isLetter_3 : decode cX11_isLetter 3 = .ok (.if_icmp .lt 13, 3) := by decide +kernel
theorem dX11_isLetter_6 : decode cX11_isLetter 6 = .ok (.iload_n 0, 1) := by decide +kernel
theorem dX11_isLetter_7 : decode cX11_isLetter 7 = .ok (.bipush 122, 2) := by decide +kernel
theorem dX11_isLetter_9 : decode cX11_isLetter 9 = .ok (.if_icmp .gt 7, 3) := by decide +kernel
theorem dX11_isLetter_12 : decode cX11_isLetter 12 = .ok (.iconst 1, 1) := by decide +kernel
theorem dX11_isLetter_13 : decode cX11_isLetter 13 = .ok (.goto 4, 3) := by decide +kernel
theorem dX11_isLetter_16 : decode cX11_isLetter 16 = .ok (.iconst 0, 1) := by decide +kernel
theorem dX11_isLetter_17 : decode cX11_isLetter 17 = .ok (.ireturn, 1) := by decide +kernel
theorem dJ9_max_7cf53_0 : decode cJ9_max_7cf53 0 = .ok (.iload_n 0, 1) := by decide +kernel
theorem dJ9_max_7cf53_1 : decode cJ9_max_7cf53 1 = .ok (.iload_n 1, 1) := by decide +kernel
theorem dJ9_max_7cf53_2 : decode cJ9_max_7cf53 2 = .ok (.if_icmp .lt 7, 3) := by decide +kernel
theorem dJ9_max_7cf53_5 : decode cJ9_max_7cf53 5 = .ok (.iload_n 0, 1) := by decide +kernel
theorem dJ9_max_7cf53_6 : decode cJ9_max_7cf53 6 = .ok (.goto 4, 3) := by decide +kernel
theorem dJ9_max_7cf53_9 : decode cJ9_max_7cf53 9 = .ok (.iload_n 1, 1) := by decide +kernel
theorem dJ9_max_7cf53_10 : decode cJ9_max_7cf53 10 = .ok (.ireturn, 1) := by decide +kernel
theorem dJ9_min_7cf53_0 : decode cJ9_min_7cf53 0 = .ok (.iload_n 0, 1) := by decide +kernel
theorem dJ9_min_7cf53_1 : decode cJ9_min_7cf53 1 = .ok (.iload_n 1, 1) := by decide +kernel
theorem dJ9_min_7cf53_2 : decode cJ9_min_7cf53 2 = .ok (.if_icmp .gt 7, 3) := by decide +kernel
theorem dJ9_min_7cf53_5 : decode cJ9_min_7cf53 5 = .ok (.iload_n 0, 1) := by decide +kernel
theorem dJ9_min_7cf53_6 : decode cJ9_min_7cf53 6 = .ok (.goto 4, 3) := by decide +kernel
theorem dJ9_min_7cf53_9 : decode cJ9_min_7cf53 9 = .ok (.iload_n 1, 1) := by decide +kernel
theorem dJ9_min_7cf53_10 : decode cJ9_min_7cf53 10 = .ok (.ireturn, 1) := by decide +kernel
theorem dJ7_fill_53178_0 : decode cJ7_fill_53178 0 = .ok (.iconst 0, 1) := by decide +kernel
theorem dJ7_fill_53178_1 : decode cJ7_fill_53178 1 = .ok (.istore_n 2, 1) := by decide +kernel
theorem dJ7_fill_53178_2 : decode cJ7_fill_53178 2 = .ok (.aload_n 0, 1) := by decide +kernel
theorem dJ7_fill_53178_3 : decode cJ7_fill_53178 3 = .ok (.arraylength, 1) := by decide +kernel
theorem dJ7_fill_53178_4 : decode cJ7_fill_53178 4 = .ok (.istore_n 3, 1) := by decide +kernel
theorem dJ7_fill_53178_5 : decode cJ7_fill_53178 5 = .ok (.iload_n 2, 1) := by decide +kernel
theorem dJ7_fill_53178_6 : decode cJ7_fill_53178 6 = .ok (.iload_n 3, 1) := by decide +kernel
theorem dJ7_fill_53178_7 : decode cJ7_fill_53178 7 = .ok (.if_icmp .ge 13, 3) := by decide +kernel
theorem dJ7_fill_53178_10 : decode cJ7_fill_53178 10 = .ok (.aload_n 0, 1) := by decide +kernel
theorem dJ7_fill_53178_11 : decode cJ7_fill_53178 11 = .ok (.iload_n 2, 1) := by decide +kernel
theorem dJ7_fill_53178_12 : decode cJ7_fill_53178 12 = .ok (.iload_n 1, 1) := by decide +kernel
theorem dJ7_fill_53178_13 : decode cJ7_fill_53178 13 = .ok (.iastore, 1) := by decide +kernel
theorem dJ7_fill_53178_14 : decode cJ7_fill_53178 14 = .ok (.iinc 2 1, 3) := by decide +kernel
theorem dJ7_fill_53178_17 : decode cJ7_fill_53178 17 = .ok (.goto (-12), 3) := by decide +kernel
theorem dJ7_fill_53178_20 : decode cJ7_fill_53178 20 = .ok (.return_, 1) := by decide +kernel
theorem dJ7_copyOf_59c91_0 : decode cJ7_copyOf_59c91 0 = .ok (.iload_n 1, 1) := by decide +kernel
theorem dJ7_copyOf_59c91_1 : decode cJ7_copyOf_59c91 1 = .ok (.aload_n 0, 1) := by decide +kernel
theorem dJ7_copyOf_59c91_2 : decode cJ7_copyOf_59c91 2 = .ok (.arraylength, 1) := by decide +kernel
theorem dJ7_copyOf_59c91_3 : decode cJ7_copyOf_59c91 3 = .ok (.if_icmp .ne 11, 3) := by decide +kernel
theorem dJ7_copyOf_59c91_6 : decode cJ7_copyOf_59c91 6 = .ok (.aload_n 0, 1) := by decide +kernel
theorem dJ7_copyOf_59c91_7 : decode cJ7_copyOf_59c91 7 = .ok (.invokevirtual 316, 3) := by decide +kernel
theorem dJ7_copyOf_59c91_10 : decode cJ7_copyOf_59c91 10 = .ok (.checkcast 317, 3) := by decide +kernel
theorem dJ7_copyOf_59c91_13 : decode cJ7_copyOf_59c91 13 = .ok (.areturn, 1) := by decide +kernel
theorem dJ7_copyOf_59c91_14 : decode cJ7_copyOf_59c91 14 = .ok (.iload_n 1, 1) := by decide +kernel
theorem dJ7_copyOf_59c91_15 : decode cJ7_copyOf_59c91 15 = .ok (.newarray .int, 2) := by decide +kernel
theorem dJ7_copyOf_59c91_17 : decode cJ7_copyOf_59c91 17 = .ok (.astore_n 2, 1) := by decide +kernel
theorem dJ7_copyOf_59c91_18 : decode cJ7_copyOf_59c91 18 = .ok (.aload_n 0, 1) := by decide +kernel
theorem dJ7_copyOf_59c91_19 : decode cJ7_copyOf_59c91 19 = .ok (.iconst 0, 1) := by decide +kernel
theorem dJ7_copyOf_59c91_20 : decode cJ7_copyOf_59c91 20 = .ok (.aload_n 2, 1) := by decide +kernel
theorem dJ7_copyOf_59c91_21 : decode cJ7_copyOf_59c91 21 = .ok (.iconst 0, 1) := by decide +kernel
theorem dJ7_copyOf_59c91_22 : decode cJ7_copyOf_59c91 22 = .ok (.aload_n 0, 1) := by decide +kernel
theorem dJ7_copyOf_59c91_23 : decode cJ7_copyOf_59c91 23 = .ok (.arraylength, 1) := by decide +kernel
theorem dJ7_copyOf_59c91_24 : decode cJ7_copyOf_59c91 24 = .ok (.iload_n 1, 1) := by decide +kernel
theorem dJ7_copyOf_59c91_25 : decode cJ7_copyOf_59c91 25 = .ok (.invokestatic 304, 3) := by decide +kernel
theorem dJ7_copyOf_59c91_28 : decode cJ7_copyOf_59c91 28 = .ok (.invokestatic 150, 3) := by decide +kernel
theorem dJ7_copyOf_59c91_31 : decode cJ7_copyOf_59c91 31 = .ok (.aload_n 2, 1) := by decide +kernel
theorem dJ7_copyOf_59c91_32 : decode cJ7_copyOf_59c91 32 = .ok (.areturn, 1) := by decide +kernel
theorem dL_cell_0 : decode cL_cell 0 = .ok (.iload_n 1, 1) := by decide +kernel
theorem dL_cell_1 : decode cL_cell 1 = .ok (.aload_n 0, 1) := by decide +kernel
theorem dL_cell_2 : decode cL_cell 2 = .ok (.arraylength, 1) := by decide +kernel
theorem dL_cell_3 : decode cL_cell 3 = .ok (.if_icmp .ge 9, 3) := by decide +kernel
theorem dL_cell_6 : decode cL_cell 6 = .ok (.aload_n 0, 1) := by decide +kernel
theorem dL_cell_7 : decode cL_cell 7 = .ok (.iload_n 1, 1) := by decide +kernel
theorem dL_cell_8 : decode cL_cell 8 = .ok (.iaload, 1) := by decide +kernel
theorem dL_cell_9 : decode cL_cell 9 = .ok (.goto 9, 3) := by decide +kernel
theorem dL_cell_12 : decode cL_cell 12 = .ok (.ldc 7, 2) := by decide +kernel
theorem dL_cell_14 : decode cL_cell 14 = .ok (.iload_n 1, 1) := by decide +kernel
theorem dL_cell_15 : decode cL_cell 15 = .ok (.iconst 1, 1) := by decide +kernel
theorem dL_cell_16 : decode cL_cell 16 = .ok (.iadd, 1) := by decide +kernel
theorem dL_cell_17 : decode cL_cell 17 = .ok (.imul, 1) := by decide +kernel
theorem dL_cell_18 : decode cL_cell 18 = .ok (.ireturn, 1) := by decide +kernel
theorem dL_low_0 : decode cL_low 0 = .ok (.iload_n 0, 1) := by decide +kernel
theorem dL_low_1 : decode cL_low 1 = .ok (.ldc 8, 2) := by decide +kernel
theorem dL_low_3 : decode cL_low 3 = .ok (.iand, 1) := by decide +kernel
theorem dL_low_4 : decode cL_low 4 = .ok (.iload_n 1, 1) := by decide +kernel
theorem dL_low_5 : decode cL_low 5 = .ok (.irem, 1) := by decide +kernel
theorem dL_low_6 : decode cL_low 6 = .ok (.ireturn, 1) := by decide +kernel
theorem dL_sign_0 : decode cL_sign 0 = .ok (.aload_n 0, 1) := by decide +kernel
theorem dL_sign_1 : decode cL_sign 1 = .ok (.iload_n 1, 1) := by decide +kernel
theorem dL_sign_2 : decode cL_sign 2 = .ok (.invokevirtual 9, 3) := by decide +kernel
theorem dL_sign_5 : decode cL_sign 5 = .ok (.ireturn, 1) := by decide +kernel
theorem dL_writeOne_0 : decode cL_writeOne 0 = .ok (.aload_n 0, 1) := by decide +kernel
theorem dL_writeOne_1 : decode cL_writeOne 1 = .ok (.invokevirtual 15, 3) := by decide +kernel
theorem dL_writeOne_4 : decode cL_writeOne 4 = .ok (.istore 5, 2) := by decide +kernel
theorem dL_writeOne_6 : decode cL_writeOne 6 = .ok (.iconst 1, 1) := by decide +kernel
theorem dL_writeOne_7 : decode cL_writeOne 7 = .ok (.istore 6, 2) := by decide +kernel
theorem dL_writeOne_9 : decode cL_writeOne 9 = .ok (.iconst 0, 1) := by decide +kernel
theorem dL_writeOne_10 : decode cL_writeOne 10 = .ok (.istore 7, 2) := by decide +kernel
theorem dL_writeOne_12 : decode cL_writeOne 12 = .ok (.iconst 0, 1) := by decide +kernel
theorem dL_writeOne_13 : decode cL_writeOne 13 = .ok (.istore 8, 2) := by decide +kernel
theorem dL_writeOne_15 : decode cL_writeOne 15 = .ok (.aload_n 3, 1) := by decide +kernel
theorem dL_writeOne_16 : decode cL_writeOne 16 = .ok (.iconst 0, 1) := by decide +kernel
theorem dL_writeOne_17 : decode cL_writeOne 17 = .ok (.ldc 19, 2) := by decide +kernel
theorem dL_writeOne_19 : decode cL_writeOne 19 = .ok (.iload 4, 2) := by decide +kernel
theorem dL_writeOne_21 : decode cL_writeOne 21 = .ok (.ior, 1) := by decide +kernel
theorem dL_writeOne_22 : decode cL_writeOne 22 = .ok (.iastore, 1) := by decide +kernel
theorem dL_writeOne_23 : decode cL_writeOne 23 = .ok (.iload 6, 2) := by decide +kernel
theorem dL_writeOne_25 : decode cL_writeOne 25 = .ok (.ifCond .le 91, 3) := by decide +kernel
theorem dL_writeOne_28 : decode cL_writeOne 28 = .ok (.iinc 6 (-1), 3) := by decide +kernel
theorem dL_writeOne_31 : decode cL_writeOne 31 = .ok (.aload_n 3, 1) := by decide +kernel
theorem dL_writeOne_32 : decode cL_writeOne 32 = .ok (.iload 6, 2) := by decide +kernel
theorem dL_writeOne_34 : decode cL_writeOne 34 = .ok (.iaload, 1) := by decide +kernel
theorem dL_writeOne_35 : decode cL_writeOne 35 = .ok (.istore 9, 2) := by decide +kernel
theorem dL_writeOne_37 : decode cL_writeOne 37 = .ok (.iload 9, 2) := by decide +kernel
theorem dL_writeOne_39 : decode cL_writeOne 39 = .ok (.sipush 128, 3) := by decide +kernel
theorem dL_writeOne_42 : decode cL_writeOne 42 = .ok (.if_icmp .ge 14, 3) := by decide +kernel
theorem dL_writeOne_45 : decode cL_writeOne 45 = .ok (.aload_n 0, 1) := by decide +kernel
theorem dL_writeOne_46 : decode cL_writeOne 46 = .ok (.iload 9, 2) := by decide +kernel
theorem dL_writeOne_48 : decode cL_writeOne 48 = .ok (.invokestatic 20, 3) := by decide +kernel
theorem dL_writeOne_51 : decode cL_writeOne 51 = .ok (.istore 8, 2) := by decide +kernel
theorem dL_writeOne_53 : decode cL_writeOne 53 = .ok (.goto 60, 3) := by decide +kernel
theorem dL_writeOne_56 : decode cL_writeOne 56 = .ok (.aload_n 1, 1) := by decide +kernel
theorem dL_writeOne_57 : decode cL_writeOne 57 = .ok (.iload_n 2, 1) := by decide +kernel
theorem dL_writeOne_58 : decode cL_writeOne 58 = .ok (.iload 7, 2) := by decide +kernel
theorem dL_writeOne_60 : decode cL_writeOne 60 = .ok (.iadd, 1) := by decide +kernel
theorem dL_writeOne_61 : decode cL_writeOne 61 = .ok (.invokestatic 26, 3) := by decide +kernel
theorem dL_writeOne_64 : decode cL_writeOne 64 = .ok (.iload 7, 2) := by decide +kernel
theorem dL_writeOne_66 : decode cL_writeOne 66 = .ok (.iconst 3, 1) := by decide +kernel
theorem dL_writeOne_67 : decode cL_writeOne 67 = .ok (.irem, 1) := by decide +kernel
theorem dL_writeOne_68 : decode cL_writeOne 68 = .ok (.ishr, 1) := by decide +kernel
theorem dL_writeOne_69 : decode cL_writeOne 69 = .ok (.istore 10, 2) := by decide +kernel
theorem dL_writeOne_71 : decode cL_writeOne 71 = .ok (.iinc 7 1, 3) := by decide +kernel
theorem dL_writeOne_74 : decode cL_writeOne 74 = .ok (.aload_n 0, 1) := by decide +kernel
theorem dL_writeOne_75 : decode cL_writeOne 75 = .ok (.aload_n 3, 1) := by decide +kernel
theorem dL_writeOne_76 : decode cL_writeOne 76 = .ok (.iload 6, 2) := by decide +kernel
theorem dL_writeOne_78 : decode cL_writeOne 78 = .ok (.iload 9, 2) := by decide +kernel
theorem dL_writeOne_80 : decode cL_writeOne 80 = .ok (.ldc 30, 2) := by decide +kernel
theorem dL_writeOne_82 : decode cL_writeOne 82 = .ok (.iand, 1) := by decide +kernel
theorem dL_writeOne_83 : decode cL_writeOne 83 = .ok (.iload 9, 2) := by decide +kernel
theorem dL_writeOne_85 : decode cL_writeOne 85 = .ok (.bipush 28, 2) := by decide +kernel
theorem dL_writeOne_87 : decode cL_writeOne 87 = .ok (.ishr, 1) := by decide +kernel
theorem dL_writeOne_88 : decode cL_writeOne 88 = .ok (.iconst 1, 1) := by decide +kernel
theorem dL_writeOne_89 : decode cL_writeOne 89 = .ok (.iand, 1) := by decide +kernel
theorem dL_writeOne_90 : decode cL_writeOne 90 = .ok (.iload 7, 2) := by decide +kernel
theorem dL_writeOne_92 : decode cL_writeOne 92 = .ok (.bipush 14, 2) := by decide +kernel
theorem dL_writeOne_94 : decode cL_writeOne 94 = .ok (.if_icmp .le 7, 3) := by decide +kernel
theorem dL_writeOne_97 : decode cL_writeOne 97 = .ok (.iconst 0, 1) := by decide +kernel
theorem dL_writeOne_98 : decode cL_writeOne 98 = .ok (.goto 5, 3) := by decide +kernel
theorem dL_writeOne_101 : decode cL_writeOne 101 = .ok (.iload 10, 2) := by decide +kernel
theorem dL_writeOne_103 : decode cL_writeOne 103 = .ok (.iload 10, 2) := by decide +kernel
theorem dL_writeOne_105 : decode cL_writeOne 105 = .ok (.bipush 7, 2) := by decide +kernel
theorem dL_writeOne_107 : decode cL_writeOne 107 = .ok (.ishr, 1) := by decide +kernel
theorem dL_writeOne_108 : decode cL_writeOne 108 = .ok (.invokestatic 31, 3) := by decide +kernel
theorem dL_writeOne_111 : decode cL_writeOne 111 = .ok (.istore 6, 2) := by decide +kernel
theorem dL_writeOne_113 : decode cL_writeOne 113 = .ok (.goto (-90), 3) := by decide +kernel
theorem dL_writeOne_116 : decode cL_writeOne 116 = .ok (.iload 7, 2) := by decide +kernel
theorem dL_writeOne_118 : decode cL_writeOne 118 = .ok (.ireturn, 1) := by decide +kernel
theorem dL_begin_0 : decode cL_begin 0 = .ok (.ldc 19, 2) := by decide +kernel
theorem dL_begin_2 : decode cL_begin 2 = .ok (.iload 4, 2) := by decide +kernel
theorem dL_begin_4 : decode cL_begin 4 = .ok (.bipush 28, 2) := by decide +kernel
theorem dL_begin_6 : decode cL_begin 6 = .ok (.ishl, 1) := by decide +kernel
theorem dL_begin_7 : decode cL_begin 7 = .ok (.ior, 1) := by decide +kernel
theorem dL_begin_8 : decode cL_begin 8 = .ok (.iload_n 3, 1) := by decide +kernel
theorem dL_begin_9 : decode cL_begin 9 = .ok (.ior, 1) := by decide +kernel
theorem dL_begin_10 : decode cL_begin 10 = .ok (.istore 7, 2) := by decide +kernel
theorem dL_begin_12 : decode cL_begin 12 = .ok (.iload 6, 2) := by decide +kernel
theorem dL_begin_14 : decode cL_begin 14 = .ok (.iconst 3, 1) := by decide +kernel
theorem dL_begin_15 : decode cL_begin 15 = .ok (.invokestatic 35, 3) := by decide +kernel
theorem dL_begin_18 : decode cL_begin 18 = .ok (.istore 8, 2) := by decide +kernel
theorem dL_begin_20 : decode cL_begin 20 = .ok (.iload_n 2, 1) := by decide +kernel
theorem dL_begin_21 : decode cL_begin 21 = .ok (.istore 9, 2) := by decide +kernel
theorem dL_begin_23 : decode cL_begin 23 = .ok (.iconst 0, 1) := by decide +kernel
theorem dL_begin_24 : decode cL_begin 24 = .ok (.istore 10, 2) := by decide +kernel
theorem dL_begin_26 : decode cL_begin 26 = .ok (.iload 5, 2) := by decide +kernel
theorem dL_begin_28 : decode cL_begin 28 = .ok (.bipush 14, 2) := by decide +kernel
theorem dL_begin_30 : decode cL_begin 30 = .ok (.invokestatic 35, 3) := by decide +kernel
theorem dL_begin_33 : decode cL_begin 33 = .ok (.tableswitch 436 0 11 #[63, 63, 131, 172, 213, 259, 259, 309, 328, 362, 397, 397], 63) := by decide +kernel
theorem dL_begin_96 : decode cL_begin 96 = .ok (.iload_n 3, 1) := by decide +kernel
theorem dL_begin_97 : decode cL_begin 97 = .ok (.bipush 23, 2) := by decide +kernel
theorem dL_begin_99 : decode cL_begin 99 = .ok (.iload 8, 2) := by decide +kernel
theorem dL_begin_101 : decode cL_begin 101 = .ok (.iadd, 1) := by decide +kernel
theorem dL_begin_102 : decode cL_begin 102 = .ok (.ishr, 1) := by decide +kernel
theorem dL_begin_103 : decode cL_begin 103 = .ok (.iconst 1, 1) := by decide +kernel
theorem dL_begin_104 : decode cL_begin 104 = .ok (.iand, 1) := by decide +kernel
theorem dL_begin_105 : decode cL_begin 105 = .ok (.iconst 1, 1) := by decide +kernel
theorem dL_begin_106 : decode cL_begin 106 = .ok (.if_icmp .ne 7, 3) := by decide +kernel
theorem dL_begin_109 : decode cL_begin 109 = .ok (.iconst 1, 1) := by decide +kernel
theorem dL_begin_110 : decode cL_begin 110 = .ok (.goto 4, 3) := by decide +kernel
theorem dL_begin_113 : decode cL_begin 113 = .ok (.iconst 0, 1) := by decide +kernel
theorem dL_begin_114 : decode cL_begin 114 = .ok (.istore 11, 2) := by decide +kernel
theorem dL_begin_116 : decode cL_begin 116 = .ok (.aload_n 0, 1) := by decide +kernel
theorem dL_begin_117 : decode cL_begin 117 = .ok (.iload 11, 2) := by decide +kernel
theorem dL_begin_119 : decode cL_begin 119 = .ok (.ifCond .eq 11, 3) := by decide +kernel
theorem dL_begin_122 : decode cL_begin 122 = .ok (.bipush 120, 2) := by decide +kernel
theorem dL_begin_124 : decode cL_begin 124 = .ok (.iload 8, 2) := by decide +kernel
theorem dL_begin_126 : decode cL_begin 126 = .ok (.iadd, 1) := by decide +kernel
theorem dL_begin_127 : decode cL_begin 127 = .ok (.goto 15, 3) := by decide +kernel
theorem dL_begin_130 : decode cL_begin 130 = .ok (.bipush 48, 2) := by decide +kernel
theorem dL_begin_132 : decode cL_begin 132 = .ok (.iload 6, 2) := by decide +kernel
theorem dL_begin_134 : decode cL_begin 134 = .ok (.iconst 2, 1) := by decide +kernel
theorem dL_begin_135 : decode cL_begin 135 = .ok (.ishr, 1) := by decide +kernel
theorem dL_begin_136 : decode cL_begin 136 = .ok (.bipush 10, 2) := by decide +kernel
theorem dL_begin_138 : decode cL_begin 138 = .ok (.invokestatic 35, 3) := by decide +kernel
theorem dL_begin_141 : decode cL_begin 141 = .ok (.iadd, 1) := by decide +kernel
theorem dL_begin_142 : decode cL_begin 142 = .ok (.invokestatic 20, 3) := by decide +kernel
theorem dL_begin_145 : decode cL_begin 145 = .ok (.istore 10, 2) := by decide +kernel
theorem dL_begin_147 : decode cL_begin 147 = .ok (.iload 11, 2) := by decide +kernel
theorem dL_begin_149 : decode cL_begin 149 = .ok (.ifCond .eq 8, 3) := by decide +kernel
theorem dL_begin_152 : decode cL_begin 152 = .ok (.iload 9, 2) := by decide +kernel
theorem dL_begin_154 : decode cL_begin 154 = .ok (.goto 9, 3) := by decide +kernel
theorem dL_begin_157 : decode cL_begin 157 = .ok (.aload_n 0, 1) := by decide +kernel
theorem dL_begin_158 : decode cL_begin 158 = .ok (.iload 9, 2) := by decide +kernel
theorem dL_begin_160 : decode cL_begin 160 = .ok (.invokestatic 39, 3) := by decide +kernel
theorem dL_begin_163 : decode cL_begin 163 = .ok (.ireturn, 1) := by decide +kernel
theorem dL_begin_164 : decode cL_begin 164 = .ok (.aload_n 0, 1) := by decide +kernel
theorem dL_begin_165 : decode cL_begin 165 = .ok (.iload 6, 2) := by decide +kernel
theorem dL_begin_167 : decode cL_begin 167 = .ok (.iconst 2, 1) := by decide +kernel
theorem dL_begin_168 : decode cL_begin 168 = .ok (.invokestatic 35, 3) := by decide +kernel
theorem dL_begin_171 : decode cL_begin 171 = .ok (.ifCond .ne 8, 3) := by decide +kernel
theorem dL_begin_174 : decode cL_begin 174 = .ok (.bipush 43, 2) := by decide +kernel
theorem dL_begin_176 : decode cL_begin 176 = .ok (.goto 5, 3) := by decide +kernel
theorem dL_begin_179 : decode cL_begin 179 = .ok (.bipush 45, 2) := by decide +kernel
theorem dL_begin_181 : decode cL_begin 181 = .ok (.invokestatic 20, 3) := by decide +kernel
theorem dL_begin_184 : decode cL_begin 184 = .ok (.istore 10, 2) := by decide +kernel
theorem dL_begin_186 : decode cL_begin 186 = .ok (.aload_n 1, 1) := by decide +kernel
theorem dL_begin_187 : decode cL_begin 187 = .ok (.iload 9, 2) := by decide +kernel
theorem dL_begin_189 : decode cL_begin 189 = .ok (.iload 7, 2) := by decide +kernel
theorem dL_begin_191 : decode cL_begin 191 = .ok (.iastore, 1) := by decide +kernel
theorem dL_begin_192 : decode cL_begin 192 = .ok (.aload_n 1, 1) := by decide +kernel
theorem dL_begin_193 : decode cL_begin 193 = .ok (.iload 9, 2) := by decide +kernel
theorem dL_begin_195 : decode cL_begin 195 = .ok (.iconst 1, 1) := by decide +kernel
theorem dL_begin_196 : decode cL_begin 196 = .ok (.iadd, 1) := by decide +kernel
theorem dL_begin_197 : decode cL_begin 197 = .ok (.iload 7, 2) := by decide +kernel
theorem dL_begin_199 : decode cL_begin 199 = .ok (.iastore, 1) := by decide +kernel
theorem dL_begin_200 : decode cL_begin 200 = .ok (.iload 9, 2) := by decide +kernel
theorem dL_begin_202 : decode cL_begin 202 = .ok (.iconst 2, 1) := by decide +kernel
theorem dL_begin_203 : decode cL_begin 203 = .ok (.iadd, 1) := by decide +kernel
theorem dL_begin_204 : decode cL_begin 204 = .ok (.ireturn, 1) := by decide +kernel
theorem dL_begin_205 : decode cL_begin 205 = .ok (.aload_n 0, 1) := by decide +kernel
theorem dL_begin_206 : decode cL_begin 206 = .ok (.iload 6, 2) := by decide +kernel
theorem dL_begin_208 : decode cL_begin 208 = .ok (.iconst 2, 1) := by decide +kernel
theorem dL_begin_209 : decode cL_begin 209 = .ok (.invokestatic 35, 3) := by decide +kernel
theorem dL_begin_212 : decode cL_begin 212 = .ok (.ifCond .ne 8, 3) := by decide +kernel
theorem dL_begin_215 : decode cL_begin 215 = .ok (.bipush 59, 2) := by decide +kernel
theorem dL_begin_217 : decode cL_begin 217 = .ok (.goto 5, 3) := by decide +kernel
theorem dL_begin_220 : decode cL_begin 220 = .ok (.bipush 37, 2) := by decide +kernel
theorem dL_begin_222 : decode cL_begin 222 = .ok (.invokestatic 20, 3) := by decide +kernel
theorem dL_begin_225 : decode cL_begin 225 = .ok (.istore 10, 2) := by decide +kernel
theorem dL_begin_227 : decode cL_begin 227 = .ok (.aload_n 1, 1) := by decide +kernel
theorem dL_begin_228 : decode cL_begin 228 = .ok (.iload 9, 2) := by decide +kernel
theorem dL_begin_230 : decode cL_begin 230 = .ok (.iload 7, 2) := by decide +kernel
theorem dL_begin_232 : decode cL_begin 232 = .ok (.iastore, 1) := by decide +kernel
theorem dL_begin_233 : decode cL_begin 233 = .ok (.aload_n 1, 1) := by decide +kernel
theorem dL_begin_234 : decode cL_begin 234 = .ok (.iload 9, 2) := by decide +kernel
theorem dL_begin_236 : decode cL_begin 236 = .ok (.iconst 1, 1) := by decide +kernel
theorem dL_begin_237 : decode cL_begin 237 = .ok (.iadd, 1) := by decide +kernel
theorem dL_begin_238 : decode cL_begin 238 = .ok (.iload 7, 2) := by decide +kernel
theorem dL_begin_240 : decode cL_begin 240 = .ok (.iastore, 1) := by decide +kernel
theorem dL_begin_241 : decode cL_begin 241 = .ok (.iload 9, 2) := by decide +kernel
theorem dL_begin_243 : decode cL_begin 243 = .ok (.iconst 2, 1) := by decide +kernel
theorem dL_begin_244 : decode cL_begin 244 = .ok (.iadd, 1) := by decide +kernel
theorem dL_begin_245 : decode cL_begin 245 = .ok (.ireturn, 1) := by decide +kernel
theorem dL_begin_246 : decode cL_begin 246 = .ok (.aload_n 0, 1) := by decide +kernel
theorem dL_begin_247 : decode cL_begin 247 = .ok (.bipush 61, 2) := by decide +kernel
theorem dL_begin_249 : decode cL_begin 249 = .ok (.invokestatic 20, 3) := by decide +kernel
theorem dL_begin_252 : decode cL_begin 252 = .ok (.istore 10, 2) := by decide +kernel
theorem dL_begin_254 : decode cL_begin 254 = .ok (.aload_n 0, 1) := by decide +kernel
theorem dL_begin_255 : decode cL_begin 255 = .ok (.bipush 120, 2) := by decide +kernel
theorem dL_begin_257 : decode cL_begin 257 = .ok (.iload 8, 2) := by decide +kernel
theorem dL_begin_259 : decode cL_begin 259 = .ok (.iadd, 1) := by decide +kernel
theorem dL_begin_260 : decode cL_begin 260 = .ok (.invokestatic 20, 3) := by decide +kernel
theorem dL_begin_263 : decode cL_begin 263 = .ok (.istore 10, 2) := by decide +kernel
theorem dL_begin_265 : decode cL_begin 265 = .ok (.aload_n 1, 1) := by decide +kernel
theorem dL_begin_266 : decode cL_begin 266 = .ok (.iload 9, 2) := by decide +kernel
theorem dL_begin_268 : decode cL_begin 268 = .ok (.iload 7, 2) := by decide +kernel
theorem dL_begin_270 : decode cL_begin 270 = .ok (.iconst 1, 1) := by decide +kernel
theorem dL_begin_271 : decode cL_begin 271 = .ok (.bipush 23, 2) := by decide +kernel
theorem dL_begin_273 : decode cL_begin 273 = .ok (.iload 8, 2) := by decide +kernel
theorem dL_begin_275 : decode cL_begin 275 = .ok (.iadd, 1) := by decide +kernel
theorem dL_begin_276 : decode cL_begin 276 = .ok (.ishl, 1) := by decide +kernel
theorem dL_begin_277 : decode cL_begin 277 = .ok (.ior, 1) := by decide +kernel
theorem dL_begin_278 : decode cL_begin 278 = .ok (.iastore, 1) := by decide +kernel
theorem dL_begin_279 : decode cL_begin 279 = .ok (.aload_n 1, 1) := by decide +kernel
theorem dL_begin_280 : decode cL_begin 280 = .ok (.iload 9, 2) := by decide +kernel
theorem dL_begin_282 : decode cL_begin 282 = .ok (.iconst 1, 1) := by decide +kernel
theorem dL_begin_283 : decode cL_begin 283 = .ok (.iadd, 1) := by decide +kernel
theorem dL_begin_284 : decode cL_begin 284 = .ok (.iload 7, 2) := by decide +kernel
theorem dL_begin_286 : decode cL_begin 286 = .ok (.iastore, 1) := by decide +kernel
theorem dL_begin_287 : decode cL_begin 287 = .ok (.iload 9, 2) := by decide +kernel
theorem dL_begin_289 : decode cL_begin 289 = .ok (.iconst 2, 1) := by decide +kernel
theorem dL_begin_290 : decode cL_begin 290 = .ok (.iadd, 1) := by decide +kernel
theorem dL_begin_291 : decode cL_begin 291 = .ok (.ireturn, 1) := by decide +kernel
theorem dL_begin_292 : decode cL_begin 292 = .ok (.aload_n 0, 1) := by decide +kernel
theorem dL_begin_293 : decode cL_begin 293 = .ok (.iload 6, 2) := by decide +kernel
theorem dL_begin_295 : decode cL_begin 295 = .ok (.iconst 4, 1) := by decide +kernel
theorem dL_begin_296 : decode cL_begin 296 = .ok (.invokestatic 35, 3) := by decide +kernel
theorem dL_begin_299 : decode cL_begin 299 = .ok (.ifCond .ne 8, 3) := by decide +kernel
theorem dL_begin_302 : decode cL_begin 302 = .ok (.bipush 126, 2) := by decide +kernel
theorem dL_begin_304 : decode cL_begin 304 = .ok (.goto 5, 3) := by decide +kernel
theorem dL_begin_307 : decode cL_begin 307 = .ok (.bipush 94, 2) := by decide +kernel
theorem dL_begin_309 : decode cL_begin 309 = .ok (.invokestatic 20, 3) := by decide +kernel
theorem dL_begin_312 : decode cL_begin 312 = .ok (.istore 10, 2) := by decide +kernel
theorem dL_begin_314 : decode cL_begin 314 = .ok (.aload_n 0, 1) := by decide +kernel
theorem dL_begin_315 : decode cL_begin 315 = .ok (.bipush 65, 2) := by decide +kernel
theorem dL_begin_317 : decode cL_begin 317 = .ok (.iload 6, 2) := by decide +kernel
theorem dL_begin_319 : decode cL_begin 319 = .ok (.iconst 2, 1) := by decide +kernel
theorem dL_begin_320 : decode cL_begin 320 = .ok (.ishr, 1) := by decide +kernel
theorem dL_begin_321 : decode cL_begin 321 = .ok (.iconst 3, 1) := by decide +kernel
theorem dL_begin_322 : decode cL_begin 322 = .ok (.invokestatic 35, 3) := by decide +kernel
theorem dL_begin_325 : decode cL_begin 325 = .ok (.iadd, 1) := by decide +kernel
theorem dL_begin_326 : decode cL_begin 326 = .ok (.invokestatic 20, 3) := by decide +kernel
theorem dL_begin_329 : decode cL_begin 329 = .ok (.istore 10, 2) := by decide +kernel
theorem dL_begin_331 : decode cL_begin 331 = .ok (.aload_n 1, 1) := by decide +kernel
theorem dL_begin_332 : decode cL_begin 332 = .ok (.iload 9, 2) := by decide +kernel
theorem dL_begin_334 : decode cL_begin 334 = .ok (.iload 7, 2) := by decide +kernel
theorem dL_begin_336 : decode cL_begin 336 = .ok (.iastore, 1) := by decide +kernel
theorem dL_begin_337 : decode cL_begin 337 = .ok (.iload 9, 2) := by decide +kernel
theorem dL_begin_339 : decode cL_begin 339 = .ok (.iconst 1, 1) := by decide +kernel
theorem dL_begin_340 : decode cL_begin 340 = .ok (.iadd, 1) := by decide +kernel
theorem dL_begin_341 : decode cL_begin 341 = .ok (.ireturn, 1) := by decide +kernel
theorem dL_begin_342 : decode cL_begin 342 = .ok (.aload_n 0, 1) := by decide +kernel
theorem dL_begin_343 : decode cL_begin 343 = .ok (.bipush 33, 2) := by decide +kernel
theorem dL_begin_345 : decode cL_begin 345 = .ok (.invokestatic 20, 3) := by decide +kernel
theorem dL_begin_348 : decode cL_begin 348 = .ok (.istore 10, 2) := by decide +kernel
theorem dL_begin_350 : decode cL_begin 350 = .ok (.aload_n 1, 1) := by decide +kernel
theorem dL_begin_351 : decode cL_begin 351 = .ok (.iload 9, 2) := by decide +kernel
theorem dL_begin_353 : decode cL_begin 353 = .ok (.iload 7, 2) := by decide +kernel
theorem dL_begin_355 : decode cL_begin 355 = .ok (.iastore, 1) := by decide +kernel
theorem dL_begin_356 : decode cL_begin 356 = .ok (.iload 9, 2) := by decide +kernel
theorem dL_begin_358 : decode cL_begin 358 = .ok (.iconst 1, 1) := by decide +kernel
theorem dL_begin_359 : decode cL_begin 359 = .ok (.iadd, 1) := by decide +kernel
theorem dL_begin_360 : decode cL_begin 360 = .ok (.ireturn, 1) := by decide +kernel
theorem dL_begin_361 : decode cL_begin 361 = .ok (.aload_n 0, 1) := by decide +kernel
theorem dL_begin_362 : decode cL_begin 362 = .ok (.bipush 38, 2) := by decide +kernel
theorem dL_begin_364 : decode cL_begin 364 = .ok (.invokestatic 20, 3) := by decide +kernel
theorem dL_begin_367 : decode cL_begin 367 = .ok (.istore 10, 2) := by decide +kernel
theorem dL_begin_369 : decode cL_begin 369 = .ok (.aload_n 0, 1) := by decide +kernel
theorem dL_begin_370 : decode cL_begin 370 = .ok (.bipush 48, 2) := by decide +kernel
theorem dL_begin_372 : decode cL_begin 372 = .ok (.iload 6, 2) := by decide +kernel
theorem dL_begin_374 : decode cL_begin 374 = .ok (.iconst 2, 1) := by decide +kernel
theorem dL_begin_375 : decode cL_begin 375 = .ok (.invokestatic 35, 3) := by decide +kernel
theorem dL_begin_378 : decode cL_begin 378 = .ok (.iadd, 1) := by decide +kernel
theorem dL_begin_379 : decode cL_begin 379 = .ok (.invokestatic 20, 3) := by decide +kernel
theorem dL_begin_382 : decode cL_begin 382 = .ok (.istore 10, 2) := by decide +kernel
theorem dL_begin_384 : decode cL_begin 384 = .ok (.aload_n 1, 1) := by decide +kernel
theorem dL_begin_385 : decode cL_begin 385 = .ok (.iload 9, 2) := by decide +kernel
theorem dL_begin_387 : decode cL_begin 387 = .ok (.iload 7, 2) := by decide +kernel
theorem dL_begin_389 : decode cL_begin 389 = .ok (.iastore, 1) := by decide +kernel
theorem dL_begin_390 : decode cL_begin 390 = .ok (.iload 9, 2) := by decide +kernel
theorem dL_begin_392 : decode cL_begin 392 = .ok (.iconst 1, 1) := by decide +kernel
theorem dL_begin_393 : decode cL_begin 393 = .ok (.iadd, 1) := by decide +kernel
theorem dL_begin_394 : decode cL_begin 394 = .ok (.ireturn, 1) := by decide +kernel
theorem dL_begin_395 : decode cL_begin 395 = .ok (.aload_n 0, 1) := by decide +kernel
theorem dL_begin_396 : decode cL_begin 396 = .ok (.bipush 63, 2) := by decide +kernel
theorem dL_begin_398 : decode cL_begin 398 = .ok (.invokestatic 20, 3) := by decide +kernel
theorem dL_begin_401 : decode cL_begin 401 = .ok (.istore 10, 2) := by decide +kernel
theorem dL_begin_403 : decode cL_begin 403 = .ok (.aload_n 1, 1) := by decide +kernel
theorem dL_begin_404 : decode cL_begin 404 = .ok (.iload 9, 2) := by decide +kernel
theorem dL_begin_406 : decode cL_begin 406 = .ok (.iload 7, 2) := by decide +kernel
theorem dL_begin_408 : decode cL_begin 408 = .ok (.iastore, 1) := by decide +kernel
theorem dL_begin_409 : decode cL_begin 409 = .ok (.aload_n 1, 1) := by decide +kernel
theorem dL_begin_410 : decode cL_begin 410 = .ok (.iload 9, 2) := by decide +kernel
theorem dL_begin_412 : decode cL_begin 412 = .ok (.iconst 1, 1) := by decide +kernel
theorem dL_begin_413 : decode cL_begin 413 = .ok (.iadd, 1) := by decide +kernel
theorem dL_begin_414 : decode cL_begin 414 = .ok (.iload 7, 2) := by decide +kernel
theorem dL_begin_416 : decode cL_begin 416 = .ok (.iastore, 1) := by decide +kernel
theorem dL_begin_417 : decode cL_begin 417 = .ok (.aload_n 1, 1) := by decide +kernel
theorem dL_begin_418 : decode cL_begin 418 = .ok (.iload 9, 2) := by decide +kernel
theorem dL_begin_420 : decode cL_begin 420 = .ok (.iconst 2, 1) := by decide +kernel
theorem dL_begin_421 : decode cL_begin 421 = .ok (.iadd, 1) := by decide +kernel
theorem dL_begin_422 : decode cL_begin 422 = .ok (.iload 7, 2) := by decide +kernel
theorem dL_begin_424 : decode cL_begin 424 = .ok (.iastore, 1) := by decide +kernel
theorem dL_begin_425 : decode cL_begin 425 = .ok (.iload 9, 2) := by decide +kernel
theorem dL_begin_427 : decode cL_begin 427 = .ok (.iconst 3, 1) := by decide +kernel
theorem dL_begin_428 : decode cL_begin 428 = .ok (.iadd, 1) := by decide +kernel
theorem dL_begin_429 : decode cL_begin 429 = .ok (.ireturn, 1) := by decide +kernel
theorem dL_begin_430 : decode cL_begin 430 = .ok (.iload 4, 2) := by decide +kernel
theorem dL_begin_432 : decode cL_begin 432 = .ok (.ifCond .ne 18, 3) := by decide +kernel
theorem dL_begin_435 : decode cL_begin 435 = .ok (.aload_n 0, 1) := by decide +kernel
theorem dL_begin_436 : decode cL_begin 436 = .ok (.bipush 49, 2) := by decide +kernel
theorem dL_begin_438 : decode cL_begin 438 = .ok (.invokestatic 20, 3) := by decide +kernel
theorem dL_begin_441 : decode cL_begin 441 = .ok (.istore 10, 2) := by decide +kernel
theorem dL_begin_443 : decode cL_begin 443 = .ok (.aload_n 0, 1) := by decide +kernel
theorem dL_begin_444 : decode cL_begin 444 = .ok (.iload 9, 2) := by decide +kernel
theorem dL_begin_446 : decode cL_begin 446 = .ok (.invokestatic 39, 3) := by decide +kernel
theorem dL_begin_449 : decode cL_begin 449 = .ok (.ireturn, 1) := by decide +kernel
theorem dL_begin_450 : decode cL_begin 450 = .ok (.aload_n 0, 1) := by decide +kernel
theorem dL_begin_451 : decode cL_begin 451 = .ok (.bipush 64, 2) := by decide +kernel
theorem dL_begin_453 : decode cL_begin 453 = .ok (.invokestatic 20, 3) := by decide +kernel
theorem dL_begin_456 : decode cL_begin 456 = .ok (.istore 10, 2) := by decide +kernel
theorem dL_begin_458 : decode cL_begin 458 = .ok (.aload_n 1, 1) := by decide +kernel
theorem dL_begin_459 : decode cL_begin 459 = .ok (.iload 9, 2) := by decide +kernel
theorem dL_begin_461 : decode cL_begin 461 = .ok (.iload 7, 2) := by decide +kernel
theorem dL_begin_463 : decode cL_begin 463 = .ok (.iastore, 1) := by decide +kernel
theorem dL_begin_464 : decode cL_begin 464 = .ok (.iload 9, 2) := by decide +kernel
theorem dL_begin_466 : decode cL_begin 466 = .ok (.iconst 1, 1) := by decide +kernel
theorem dL_begin_467 : decode cL_begin 467 = .ok (.iadd, 1) := by decide +kernel
theorem dL_begin_468 : decode cL_begin 468 = .ok (.ireturn, 1) := by decide +kernel
theorem dL_begin_469 : decode cL_begin 469 = .ok (.aload_n 0, 1) := by decide +kernel
theorem dL_begin_470 : decode cL_begin 470 = .ok (.bipush 123, 2) := by decide +kernel
theorem dL_begin_472 : decode cL_begin 472 = .ok (.invokestatic 20, 3) := by decide +kernel
theorem dL_begin_475 : decode cL_begin 475 = .ok (.istore 10, 2) := by decide +kernel
theorem dL_begin_477 : decode cL_begin 477 = .ok (.aload_n 1, 1) := by decide +kernel
theorem dL_begin_478 : decode cL_begin 478 = .ok (.iload 9, 2) := by decide +kernel
theorem dL_begin_480 : decode cL_begin 480 = .ok (.bipush 125, 2) := by decide +kernel
theorem dL_begin_482 : decode cL_begin 482 = .ok (.iastore, 1) := by decide +kernel
theorem dL_begin_483 : decode cL_begin 483 = .ok (.aload_n 1, 1) := by decide +kernel
theorem dL_begin_484 : decode cL_begin 484 = .ok (.iload 9, 2) := by decide +kernel
theorem dL_begin_486 : decode cL_begin 486 = .ok (.iconst 1, 1) := by decide +kernel
theorem dL_begin_487 : decode cL_begin 487 = .ok (.iadd, 1) := by decide +kernel
theorem dL_begin_488 : decode cL_begin 488 = .ok (.iload 7, 2) := by decide +kernel
theorem dL_begin_490 : decode cL_begin 490 = .ok (.ldc 42, 2) := by decide +kernel
theorem dL_begin_492 : decode cL_begin 492 = .ok (.ior, 1) := by decide +kernel
theorem dL_begin_493 : decode cL_begin 493 = .ok (.iconst 1, 1) := by decide +kernel
theorem dL_begin_494 : decode cL_begin 494 = .ok (.bipush 23, 2) := by decide +kernel
theorem dL_begin_496 : decode cL_begin 496 = .ok (.iload 8, 2) := by decide +kernel
theorem dL_begin_498 : decode cL_begin 498 = .ok (.iadd, 1) := by decide +kernel
theorem dL_begin_499 : decode cL_begin 499 = .ok (.ishl, 1) := by decide +kernel
theorem dL_begin_500 : decode cL_begin 500 = .ok (.ior, 1) := by decide +kernel
theorem dL_begin_501 : decode cL_begin 501 = .ok (.iastore, 1) := by decide +kernel
theorem dL_begin_502 : decode cL_begin 502 = .ok (.aload_n 1, 1) := by decide +kernel
theorem dL_begin_503 : decode cL_begin 503 = .ok (.iload 9, 2) := by decide +kernel
theorem dL_begin_505 : decode cL_begin 505 = .ok (.iconst 2, 1) := by decide +kernel
theorem dL_begin_506 : decode cL_begin 506 = .ok (.iadd, 1) := by decide +kernel
theorem dL_begin_507 : decode cL_begin 507 = .ok (.bipush 120, 2) := by decide +kernel
theorem dL_begin_509 : decode cL_begin 509 = .ok (.iload 8, 2) := by decide +kernel
theorem dL_begin_511 : decode cL_begin 511 = .ok (.iadd, 1) := by decide +kernel
theorem dL_begin_512 : decode cL_begin 512 = .ok (.iastore, 1) := by decide +kernel
theorem dL_begin_513 : decode cL_begin 513 = .ok (.aload_n 1, 1) := by decide +kernel
theorem dL_begin_514 : decode cL_begin 514 = .ok (.iload 9, 2) := by decide +kernel
theorem dL_begin_516 : decode cL_begin 516 = .ok (.iconst 3, 1) := by decide +kernel
theorem dL_begin_517 : decode cL_begin 517 = .ok (.iadd, 1) := by decide +kernel
theorem dL_begin_518 : decode cL_begin 518 = .ok (.bipush 65, 2) := by decide +kernel
theorem dL_begin_520 : decode cL_begin 520 = .ok (.iload 6, 2) := by decide +kernel
theorem dL_begin_522 : decode cL_begin 522 = .ok (.iconst 2, 1) := by decide +kernel
theorem dL_begin_523 : decode cL_begin 523 = .ok (.ishr, 1) := by decide +kernel
theorem dL_begin_524 : decode cL_begin 524 = .ok (.iconst 3, 1) := by decide +kernel
theorem dL_begin_525 : decode cL_begin 525 = .ok (.invokestatic 35, 3) := by decide +kernel
theorem dL_begin_528 : decode cL_begin 528 = .ok (.iadd, 1) := by decide +kernel
theorem dL_begin_529 : decode cL_begin 529 = .ok (.iastore, 1) := by decide +kernel
theorem dL_begin_530 : decode cL_begin 530 = .ok (.aload_n 1, 1) := by decide +kernel
theorem dL_begin_531 : decode cL_begin 531 = .ok (.iload 9, 2) := by decide +kernel
theorem dL_begin_533 : decode cL_begin 533 = .ok (.iconst 4, 1) := by decide +kernel
theorem dL_begin_534 : decode cL_begin 534 = .ok (.iadd, 1) := by decide +kernel
theorem dL_begin_535 : decode cL_begin 535 = .ok (.iload 7, 2) := by decide +kernel
theorem dL_begin_537 : decode cL_begin 537 = .ok (.iastore, 1) := by decide +kernel
theorem dL_begin_538 : decode cL_begin 538 = .ok (.iload 9, 2) := by decide +kernel
theorem dL_begin_540 : decode cL_begin 540 = .ok (.iconst 5, 1) := by decide +kernel
theorem dL_begin_541 : decode cL_begin 541 = .ok (.iadd, 1) := by decide +kernel
theorem dL_begin_542 : decode cL_begin 542 = .ok (.ireturn, 1) := by decide +kernel
theorem dL_blank_0 : decode cL_blank 0 = .ok (.aload_n 0, 1) := by decide +kernel
theorem dL_blank_1 : decode cL_blank 1 = .ok (.bipush 32, 2) := by decide +kernel
theorem dL_blank_3 : decode cL_blank 3 = .ok (.invokevirtual 9, 3) := by decide +kernel
theorem dL_blank_6 : decode cL_blank 6 = .ok (.ifCond .le 7, 3) := by decide +kernel
theorem dL_blank_9 : decode cL_blank 9 = .ok (.iload_n 1, 1) := by decide +kernel
theorem dL_blank_10 : decode cL_blank 10 = .ok (.goto 4, 3) := by decide +kernel
theorem dL_blank_13 : decode cL_blank 13 = .ok (.iload_n 1, 1) := by decide +kernel
theorem dL_blank_14 : decode cL_blank 14 = .ok (.ireturn, 1) := by decide +kernel
theorem dL_isSound_0 : decode cL_isSound 0 = .ok (.iconst 0, 1) := by decide +kernel
theorem dL_isSound_1 : decode cL_isSound 1 = .ok (.istore_n 1, 1) := by decide +kernel
theorem dL_isSound_2 : decode cL_isSound 2 = .ok (.iconst 0, 1) := by decide +kernel
theorem dL_isSound_3 : decode cL_isSound 3 = .ok (.istore_n 2, 1) := by decide +kernel
theorem dL_isSound_4 : decode cL_isSound 4 = .ok (.iload_n 2, 1) := by decide +kernel
theorem dL_isSound_5 : decode cL_isSound 5 = .ok (.bipush 6, 2) := by decide +kernel
theorem dL_isSound_7 : decode cL_isSound 7 = .ok (.if_icmp .ge 61, 3) := by decide +kernel
theorem dL_isSound_10 : decode cL_isSound 10 = .ok (.iload_n 1, 1) := by decide +kernel
theorem dL_isSound_11 : decode cL_isSound 11 = .ok (.aload_n 0, 1) := by decide +kernel
theorem dL_isSound_12 : decode cL_isSound 12 = .ok (.iload_n 2, 1) := by decide +kernel
theorem dL_isSound_13 : decode cL_isSound 13 = .ok (.invokevirtual 43, 3) := by decide +kernel
theorem dL_isSound_16 : decode cL_isSound 16 = .ok (.iadd, 1) := by decide +kernel
theorem dL_isSound_17 : decode cL_isSound 17 = .ok (.istore_n 1, 1) := by decide +kernel
theorem dL_isSound_18 : decode cL_isSound 18 = .ok (.aload_n 0, 1) := by decide +kernel
theorem dL_isSound_19 : decode cL_isSound 19 = .ok (.iload_n 2, 1) := by decide +kernel
theorem dL_isSound_20 : decode cL_isSound 20 = .ok (.invokevirtual 46, 3) := by decide +kernel
theorem dL_isSound_23 : decode cL_isSound 23 = .ok (.istore_n 3, 1) := by decide +kernel
theorem dL_isSound_24 : decode cL_isSound 24 = .ok (.iload_n 3, 1) := by decide +kernel
theorem dL_isSound_25 : decode cL_isSound 25 = .ok (.bipush (-9), 2) := by decide +kernel
theorem dL_isSound_27 : decode cL_isSound 27 = .ok (.if_icmp .eq 35, 3) := by decide +kernel
theorem dL_isSound_30 : decode cL_isSound 30 = .ok (.iload_n 3, 1) := by decide +kernel
theorem dL_isSound_31 : decode cL_isSound 31 = .ok (.aload_n 0, 1) := by decide +kernel
theorem dL_isSound_32 : decode cL_isSound 32 = .ok (.iconst 2, 1) := by decide +kernel
theorem dL_isSound_33 : decode cL_isSound 33 = .ok (.invokevirtual 49, 3) := by decide +kernel
theorem dL_isSound_36 : decode cL_isSound 36 = .ok (.if_icmp .ge 24, 3) := by decide +kernel
theorem dL_isSound_39 : decode cL_isSound 39 = .ok (.aload_n 0, 1) := by decide +kernel
theorem dL_isSound_40 : decode cL_isSound 40 = .ok (.iload_n 3, 1) := by decide +kernel
theorem dL_isSound_41 : decode cL_isSound 41 = .ok (.iconst 0, 1) := by decide +kernel
theorem dL_isSound_42 : decode cL_isSound 42 = .ok (.invokevirtual 52, 3) := by decide +kernel
theorem dL_isSound_45 : decode cL_isSound 45 = .ok (.bipush 12, 2) := by decide +kernel
theorem dL_isSound_47 : decode cL_isSound 47 = .ok (.if_icmp .ne 13, 3) := by decide +kernel
theorem dL_isSound_50 : decode cL_isSound 50 = .ok (.aload_n 0, 1) := by decide +kernel
theorem dL_isSound_51 : decode cL_isSound 51 = .ok (.iload_n 3, 1) := by decide +kernel
theorem dL_isSound_52 : decode cL_isSound 52 = .ok (.iconst 1, 1) := by decide +kernel
theorem dL_isSound_53 : decode cL_isSound 53 = .ok (.invokevirtual 52, 3) := by decide +kernel
theorem dL_isSound_56 : decode cL_isSound 56 = .ok (.iconst 1, 1) := by decide +kernel
theorem dL_isSound_57 : decode cL_isSound 57 = .ok (.if_icmp .ge 5, 3) := by decide +kernel
theorem dL_isSound_60 : decode cL_isSound 60 = .ok (.iconst 0, 1) := by decide +kernel
theorem dL_isSound_61 : decode cL_isSound 61 = .ok (.ireturn, 1) := by decide +kernel
theorem dL_isSound_62 : decode cL_isSound 62 = .ok (.iinc 2 1, 3) := by decide +kernel
theorem dL_isSound_65 : decode cL_isSound 65 = .ok (.goto (-61), 3) := by decide +kernel
theorem dL_isSound_68 : decode cL_isSound 68 = .ok (.aload_n 0, 1) := by decide +kernel
theorem dL_isSound_69 : decode cL_isSound 69 = .ok (.iconst 0, 1) := by decide +kernel
theorem dL_isSound_70 : decode cL_isSound 70 = .ok (.invokevirtual 49, 3) := by decide +kernel
theorem dL_isSound_73 : decode cL_isSound 73 = .ok (.istore_n 2, 1) := by decide +kernel
theorem dL_isSound_74 : decode cL_isSound 74 = .ok (.iload_n 1, 1) := by decide +kernel
theorem dL_isSound_75 : decode cL_isSound 75 = .ok (.aload_n 0, 1) := by decide +kernel
theorem dL_isSound_76 : decode cL_isSound 76 = .ok (.iconst 5, 1) := by decide +kernel
theorem dL_isSound_77 : decode cL_isSound 77 = .ok (.invokevirtual 49, 3) := by decide +kernel
theorem dL_isSound_80 : decode cL_isSound 80 = .ok (.if_icmp .ne 94, 3) := by decide +kernel
theorem dL_isSound_83 : decode cL_isSound 83 = .ok (.aload_n 0, 1) := by decide +kernel
theorem dL_isSound_84 : decode cL_isSound 84 = .ok (.iconst 2, 1) := by decide +kernel
theorem dL_isSound_85 : decode cL_isSound 85 = .ok (.invokevirtual 49, 3) := by decide +kernel
theorem dL_isSound_88 : decode cL_isSound 88 = .ok (.aload_n 0, 1) := by decide +kernel
theorem dL_isSound_89 : decode cL_isSound 89 = .ok (.iconst 3, 1) := by decide +kernel
theorem dL_isSound_90 : decode cL_isSound 90 = .ok (.invokevirtual 49, 3) := by decide +kernel
theorem dL_isSound_93 : decode cL_isSound 93 = .ok (.if_icmp .gt 81, 3) := by decide +kernel
theorem dL_isSound_96 : decode cL_isSound 96 = .ok (.aload_n 0, 1) := by decide +kernel
theorem dL_isSound_97 : decode cL_isSound 97 = .ok (.iconst 3, 1) := by decide +kernel
theorem dL_isSound_98 : decode cL_isSound 98 = .ok (.invokevirtual 49, 3) := by decide +kernel
theorem dL_isSound_101 : decode cL_isSound 101 = .ok (.bipush 100, 2) := by decide +kernel
theorem dL_isSound_103 : decode cL_isSound 103 = .ok (.if_icmp .gt 71, 3) := by decide +kernel
theorem dL_isSound_106 : decode cL_isSound 106 = .ok (.aload_n 0, 1) := by decide +kernel
theorem dL_isSound_107 : decode cL_isSound 107 = .ok (.iconst 1, 1) := by decide +kernel
theorem dL_isSound_108 : decode cL_isSound 108 = .ok (.invokevirtual 49, 3) := by decide +kernel
theorem dL_isSound_111 : decode cL_isSound 111 = .ok (.sipush 1000, 3) := by decide +kernel
theorem dL_isSound_114 : decode cL_isSound 114 = .ok (.if_icmp .gt 60, 3) := by decide +kernel
theorem dL_isSound_117 : decode cL_isSound 117 = .ok (.aload_n 0, 1) := by decide +kernel
theorem dL_isSound_118 : decode cL_isSound 118 = .ok (.iconst 4, 1) := by decide +kernel
theorem dL_isSound_119 : decode cL_isSound 119 = .ok (.invokevirtual 49, 3) := by decide +kernel
theorem dL_isSound_122 : decode cL_isSound 122 = .ok (.bipush 60, 2) := by decide +kernel
theorem dL_isSound_124 : decode cL_isSound 124 = .ok (.if_icmp .gt 50, 3) := by decide +kernel
theorem dL_isSound_127 : decode cL_isSound 127 = .ok (.aload_n 0, 1) := by decide +kernel
theorem dL_isSound_128 : decode cL_isSound 128 = .ok (.bipush 8, 2) := by decide +kernel
theorem dL_isSound_130 : decode cL_isSound 130 = .ok (.invokevirtual 49, 3) := by decide +kernel
theorem dL_isSound_133 : decode cL_isSound 133 = .ok (.aload_n 0, 1) := by decide +kernel
theorem dL_isSound_134 : decode cL_isSound 134 = .ok (.bipush 7, 2) := by decide +kernel
theorem dL_isSound_136 : decode cL_isSound 136 = .ok (.invokevirtual 49, 3) := by decide +kernel
theorem dL_isSound_139 : decode cL_isSound 139 = .ok (.if_icmp .gt 35, 3) := by decide +kernel
theorem dL_isSound_142 : decode cL_isSound 142 = .ok (.aload_n 0, 1) := by decide +kernel
theorem dL_isSound_143 : decode cL_isSound 143 = .ok (.bipush 6, 2) := by decide +kernel
theorem dL_isSound_145 : decode cL_isSound 145 = .ok (.invokevirtual 49, 3) := by decide +kernel
theorem dL_isSound_148 : decode cL_isSound 148 = .ok (.iload_n 2, 1) := by decide +kernel
theorem dL_isSound_149 : decode cL_isSound 149 = .ok (.iconst 3, 1) := by decide +kernel
theorem dL_isSound_150 : decode cL_isSound 150 = .ok (.if_icmp .ne 7, 3) := by decide +kernel
theorem dL_isSound_153 : decode cL_isSound 153 = .ok (.iconst 1, 1) := by decide +kernel
theorem dL_isSound_154 : decode cL_isSound 154 = .ok (.goto 4, 3) := by decide +kernel
theorem dL_isSound_157 : decode cL_isSound 157 = .ok (.iconst 0, 1) := by decide +kernel
theorem dL_isSound_158 : decode cL_isSound 158 = .ok (.iadd, 1) := by decide +kernel
theorem dL_isSound_159 : decode cL_isSound 159 = .ok (.aload_n 0, 1) := by decide +kernel
theorem dL_isSound_160 : decode cL_isSound 160 = .ok (.iconst 5, 1) := by decide +kernel
theorem dL_isSound_161 : decode cL_isSound 161 = .ok (.invokevirtual 49, 3) := by decide +kernel
theorem dL_isSound_164 : decode cL_isSound 164 = .ok (.bipush 30, 2) := by decide +kernel
theorem dL_isSound_166 : decode cL_isSound 166 = .ok (.iadd, 1) := by decide +kernel
theorem dL_isSound_167 : decode cL_isSound 167 = .ok (.if_icmp .gt 7, 3) := by decide +kernel
theorem dL_isSound_170 : decode cL_isSound 170 = .ok (.iconst 1, 1) := by decide +kernel
theorem dL_isSound_171 : decode cL_isSound 171 = .ok (.goto 4, 3) := by decide +kernel
theorem dL_isSound_174 : decode cL_isSound 174 = .ok (.iconst 0, 1) := by decide +kernel
theorem dL_isSound_175 : decode cL_isSound 175 = .ok (.istore_n 3, 1) := by decide +kernel
theorem dL_isSound_176 : decode cL_isSound 176 = .ok (.iload_n 3, 1) := by decide +kernel
theorem dL_isSound_177 : decode cL_isSound 177 = .ok (.ifCond .eq 90, 3) := by decide +kernel
theorem dL_isSound_180 : decode cL_isSound 180 = .ok (.aload_n 0, 1) := by decide +kernel
theorem dL_isSound_181 : decode cL_isSound 181 = .ok (.bipush 10, 2) := by decide +kernel
theorem dL_isSound_183 : decode cL_isSound 183 = .ok (.invokevirtual 49, 3) := by decide +kernel
theorem dL_isSound_186 : decode cL_isSound 186 = .ok (.bipush (-9), 2) := by decide +kernel
theorem dL_isSound_188 : decode cL_isSound 188 = .ok (.if_icmp .eq 7, 3) := by decide +kernel
theorem dL_isSound_191 : decode cL_isSound 191 = .ok (.iconst 1, 1) := by decide +kernel
theorem dL_isSound_192 : decode cL_isSound 192 = .ok (.goto 4, 3) := by decide +kernel
theorem dL_isSound_195 : decode cL_isSound 195 = .ok (.iconst 0, 1) := by decide +kernel
theorem dL_isSound_196 : decode cL_isSound 196 = .ok (.iload_n 2, 1) := by decide +kernel
theorem dL_isSound_197 : decode cL_isSound 197 = .ok (.iconst 3, 1) := by decide +kernel
theorem dL_isSound_198 : decode cL_isSound 198 = .ok (.if_icmp .ne 7, 3) := by decide +kernel
theorem dL_isSound_201 : decode cL_isSound 201 = .ok (.iconst 1, 1) := by decide +kernel
theorem dL_isSound_202 : decode cL_isSound 202 = .ok (.goto 4, 3) := by decide +kernel
theorem dL_isSound_205 : decode cL_isSound 205 = .ok (.iconst 0, 1) := by decide +kernel
theorem dL_isSound_206 : decode cL_isSound 206 = .ok (.if_icmp .ne 61, 3) := by decide +kernel
theorem dL_isSound_209 : decode cL_isSound 209 = .ok (.aload_n 0, 1) := by decide +kernel
theorem dL_isSound_210 : decode cL_isSound 210 = .ok (.invokevirtual 55, 3) := by decide +kernel
theorem dL_isSound_213 : decode cL_isSound 213 = .ok (.ifCond .eq 7, 3) := by decide +kernel
theorem dL_isSound_216 : decode cL_isSound 216 = .ok (.iconst 1, 1) := by decide +kernel
theorem dL_isSound_217 : decode cL_isSound 217 = .ok (.goto 4, 3) := by decide +kernel
theorem dL_isSound_220 : decode cL_isSound 220 = .ok (.iconst 0, 1) := by decide +kernel
theorem dL_isSound_221 : decode cL_isSound 221 = .ok (.iload_n 2, 1) := by decide +kernel
theorem dL_isSound_222 : decode cL_isSound 222 = .ok (.iconst 1, 1) := by decide +kernel
theorem dL_isSound_223 : decode cL_isSound 223 = .ok (.if_icmp .ne 7, 3) := by decide +kernel
theorem dL_isSound_226 : decode cL_isSound 226 = .ok (.iconst 1, 1) := by decide +kernel
theorem dL_isSound_227 : decode cL_isSound 227 = .ok (.goto 4, 3) := by decide +kernel
theorem dL_isSound_230 : decode cL_isSound 230 = .ok (.iconst 0, 1) := by decide +kernel
theorem dL_isSound_231 : decode cL_isSound 231 = .ok (.if_icmp .ne 36, 3) := by decide +kernel
theorem dL_isSound_234 : decode cL_isSound 234 = .ok (.iload_n 2, 1) := by decide +kernel
theorem dL_isSound_235 : decode cL_isSound 235 = .ok (.iconst 2, 1) := by decide +kernel
theorem dL_isSound_236 : decode cL_isSound 236 = .ok (.if_icmp .ne 11, 3) := by decide +kernel
theorem dL_isSound_239 : decode cL_isSound 239 = .ok (.aload_n 0, 1) := by decide +kernel
theorem dL_isSound_240 : decode cL_isSound 240 = .ok (.iconst 2, 1) := by decide +kernel
theorem dL_isSound_241 : decode cL_isSound 241 = .ok (.invokevirtual 49, 3) := by decide +kernel
theorem dL_isSound_244 : decode cL_isSound 244 = .ok (.ifCond .ne 23, 3) := by decide +kernel
theorem dL_isSound_247 : decode cL_isSound 247 = .ok (.iload_n 2, 1) := by decide +kernel
theorem dL_isSound_248 : decode cL_isSound 248 = .ok (.iconst 5, 1) := by decide +kernel
theorem dL_isSound_249 : decode cL_isSound 249 = .ok (.if_icmp .ne 14, 3) := by decide +kernel
theorem dL_isSound_252 : decode cL_isSound 252 = .ok (.aload_n 0, 1) := by decide +kernel
theorem dL_isSound_253 : decode cL_isSound 253 = .ok (.iconst 1, 1) := by decide +kernel
theorem dL_isSound_254 : decode cL_isSound 254 = .ok (.invokevirtual 49, 3) := by decide +kernel
theorem dL_isSound_257 : decode cL_isSound 257 = .ok (.sipush 1000, 3) := by decide +kernel
theorem dL_isSound_260 : decode cL_isSound 260 = .ok (.if_icmp .ne 7, 3) := by decide +kernel
theorem dL_isSound_263 : decode cL_isSound 263 = .ok (.iconst 1, 1) := by decide +kernel
theorem dL_isSound_264 : decode cL_isSound 264 = .ok (.goto 4, 3) := by decide +kernel
theorem dL_isSound_267 : decode cL_isSound 267 = .ok (.iconst 0, 1) := by decide +kernel
theorem dL_isSound_268 : decode cL_isSound 268 = .ok (.istore_n 3, 1) := by decide +kernel
theorem dL_isSound_269 : decode cL_isSound 269 = .ok (.iconst 0, 1) := by decide +kernel
theorem dL_isSound_270 : decode cL_isSound 270 = .ok (.istore 4, 2) := by decide +kernel
theorem dL_isSound_272 : decode cL_isSound 272 = .ok (.iload 4, 2) := by decide +kernel
theorem dL_isSound_274 : decode cL_isSound 274 = .ok (.aload_n 0, 1) := by decide +kernel
theorem dL_isSound_275 : decode cL_isSound 275 = .ok (.iconst 2, 1) := by decide +kernel
theorem dL_isSound_276 : decode cL_isSound 276 = .ok (.invokevirtual 49, 3) := by decide +kernel
theorem dL_isSound_279 : decode cL_isSound 279 = .ok (.if_icmp .ge 69, 3) := by decide +kernel
theorem dL_isSound_282 : decode cL_isSound 282 = .ok (.aload_n 0, 1) := by decide +kernel
theorem dL_isSound_283 : decode cL_isSound 283 = .ok (.iload 4, 2) := by decide +kernel
theorem dL_isSound_285 : decode cL_isSound 285 = .ok (.iconst 0, 1) := by decide +kernel
theorem dL_isSound_286 : decode cL_isSound 286 = .ok (.invokevirtual 52, 3) := by decide +kernel
theorem dL_isSound_289 : decode cL_isSound 289 = .ok (.istore 5, 2) := by decide +kernel
theorem dL_isSound_291 : decode cL_isSound 291 = .ok (.iload_n 3, 1) := by decide +kernel
theorem dL_isSound_292 : decode cL_isSound 292 = .ok (.ifCond .eq 48, 3) := by decide +kernel
theorem dL_isSound_295 : decode cL_isSound 295 = .ok (.iload 5, 2) := by decide +kernel
theorem dL_isSound_297 : decode cL_isSound 297 = .ok (.iconst 1, 1) := by decide +kernel
theorem dL_isSound_298 : decode cL_isSound 298 = .ok (.if_icmp .lt 42, 3) := by decide +kernel
theorem dL_isSound_301 : decode cL_isSound 301 = .ok (.iload 5, 2) := by decide +kernel
theorem dL_isSound_303 : decode cL_isSound 303 = .ok (.bipush 14, 2) := by decide +kernel
theorem dL_isSound_305 : decode cL_isSound 305 = .ok (.if_icmp .gt 35, 3) := by decide +kernel
theorem dL_isSound_308 : decode cL_isSound 308 = .ok (.iload 5, 2) := by decide +kernel
theorem dL_isSound_310 : decode cL_isSound 310 = .ok (.bipush 9, 2) := by decide +kernel
theorem dL_isSound_312 : decode cL_isSound 312 = .ok (.if_icmp .ne 24, 3) := by decide +kernel
theorem dL_isSound_315 : decode cL_isSound 315 = .ok (.aload_n 0, 1) := by decide +kernel
theorem dL_isSound_316 : decode cL_isSound 316 = .ok (.iload 4, 2) := by decide +kernel
theorem dL_isSound_318 : decode cL_isSound 318 = .ok (.iconst 1, 1) := by decide +kernel
theorem dL_isSound_319 : decode cL_isSound 319 = .ok (.invokevirtual 52, 3) := by decide +kernel
theorem dL_isSound_322 : decode cL_isSound 322 = .ok (.ifCond .lt 18, 3) := by decide +kernel
theorem dL_isSound_325 : decode cL_isSound 325 = .ok (.aload_n 0, 1) := by decide +kernel
theorem dL_isSound_326 : decode cL_isSound 326 = .ok (.iload 4, 2) := by decide +kernel
theorem dL_isSound_328 : decode cL_isSound 328 = .ok (.iconst 1, 1) := by decide +kernel
theorem dL_isSound_329 : decode cL_isSound 329 = .ok (.invokevirtual 52, 3) := by decide +kernel
theorem dL_isSound_332 : decode cL_isSound 332 = .ok (.iconst 1, 1) := by decide +kernel
theorem dL_isSound_333 : decode cL_isSound 333 = .ok (.if_icmp .gt 7, 3) := by decide +kernel
theorem dL_isSound_336 : decode cL_isSound 336 = .ok (.iconst 1, 1) := by decide +kernel
theorem dL_isSound_337 : decode cL_isSound 337 = .ok (.goto 4, 3) := by decide +kernel
theorem dL_isSound_340 : decode cL_isSound 340 = .ok (.iconst 0, 1) := by decide +kernel
theorem dL_isSound_341 : decode cL_isSound 341 = .ok (.istore_n 3, 1) := by decide +kernel
theorem dL_isSound_342 : decode cL_isSound 342 = .ok (.iinc 4 1, 3) := by decide +kernel
theorem dL_isSound_345 : decode cL_isSound 345 = .ok (.goto (-73), 3) := by decide +kernel
theorem dL_isSound_348 : decode cL_isSound 348 = .ok (.iload_n 3, 1) := by decide +kernel
theorem dL_isSound_349 : decode cL_isSound 349 = .ok (.ifCond .eq 35, 3) := by decide +kernel
theorem dL_isSound_352 : decode cL_isSound 352 = .ok (.aload_n 0, 1) := by decide +kernel
theorem dL_isSound_353 : decode cL_isSound 353 = .ok (.aload_n 0, 1) := by decide +kernel
theorem dL_isSound_354 : decode cL_isSound 354 = .ok (.iconst 2, 1) := by decide +kernel
theorem dL_isSound_355 : decode cL_isSound 355 = .ok (.invokevirtual 49, 3) := by decide +kernel
theorem dL_isSound_358 : decode cL_isSound 358 = .ok (.iconst 0, 1) := by decide +kernel
theorem dL_isSound_359 : decode cL_isSound 359 = .ok (.invokevirtual 52, 3) := by decide +kernel
theorem dL_isSound_362 : decode cL_isSound 362 = .ok (.iconst (-1), 1) := by decide +kernel
theorem dL_isSound_363 : decode cL_isSound 363 = .ok (.if_icmp .ne 21, 3) := by decide +kernel
theorem dL_isSound_366 : decode cL_isSound 366 = .ok (.aload_n 0, 1) := by decide +kernel
theorem dL_isSound_367 : decode cL_isSound 367 = .ok (.aload_n 0, 1) := by decide +kernel
theorem dL_isSound_368 : decode cL_isSound 368 = .ok (.iconst 4, 1) := by decide +kernel
theorem dL_isSound_369 : decode cL_isSound 369 = .ok (.invokevirtual 49, 3) := by decide +kernel
theorem dL_isSound_372 : decode cL_isSound 372 = .ok (.invokevirtual 58, 3) := by decide +kernel
theorem dL_isSound_375 : decode cL_isSound 375 = .ok (.bipush (-9), 2) := by decide +kernel
theorem dL_isSound_377 : decode cL_isSound 377 = .ok (.if_icmp .ne 7, 3) := by decide +kernel
theorem dL_isSound_380 : decode cL_isSound 380 = .ok (.iconst 1, 1) := by decide +kernel
theorem dL_isSound_381 : decode cL_isSound 381 = .ok (.goto 4, 3) := by decide +kernel
theorem dL_isSound_384 : decode cL_isSound 384 = .ok (.iconst 0, 1) := by decide +kernel
theorem dL_isSound_385 : decode cL_isSound 385 = .ok (.ireturn, 1) := by decide +kernel
theorem dL_areAlike_0 : decode cL_areAlike 0 = .ok (.aload_n 0, 1) := by decide +kernel
theorem dL_areAlike_1 : decode cL_areAlike 1 = .ok (.invokevirtual 61, 3) := by decide +kernel
theorem dL_areAlike_4 : decode cL_areAlike 4 = .ok (.aload_n 1, 1) := by decide +kernel
theorem dL_areAlike_5 : decode cL_areAlike 5 = .ok (.invokevirtual 61, 3) := by decide +kernel
theorem dL_areAlike_8 : decode cL_areAlike 8 = .ok (.if_icmp .ne 18, 3) := by decide +kernel
theorem dL_areAlike_11 : decode cL_areAlike 11 = .ok (.aload_n 0, 1) := by decide +kernel
theorem dL_areAlike_12 : decode cL_areAlike 12 = .ok (.invokevirtual 55, 3) := by decide +kernel
theorem dL_areAlike_15 : decode cL_areAlike 15 = .ok (.aload_n 1, 1) := by decide +kernel
theorem dL_areAlike_16 : decode cL_areAlike 16 = .ok (.invokevirtual 55, 3) := by decide +kernel
theorem dL_areAlike_19 : decode cL_areAlike 19 = .ok (.if_icmp .ne 7, 3) := by decide +kernel
theorem dL_areAlike_22 : decode cL_areAlike 22 = .ok (.iconst 1, 1) := by decide +kernel
theorem dL_areAlike_23 : decode cL_areAlike 23 = .ok (.goto 4, 3) := by decide +kernel
theorem dL_areAlike_26 : decode cL_areAlike 26 = .ok (.iconst 0, 1) := by decide +kernel
theorem dL_areAlike_27 : decode cL_areAlike 27 = .ok (.istore_n 2, 1) := by decide +kernel
theorem dL_areAlike_28 : decode cL_areAlike 28 = .ok (.iconst 0, 1) := by decide +kernel
theorem dL_areAlike_29 : decode cL_areAlike 29 = .ok (.istore_n 3, 1) := by decide +kernel
theorem dL_areAlike_30 : decode cL_areAlike 30 = .ok (.iload_n 3, 1) := by decide +kernel
theorem dL_areAlike_31 : decode cL_areAlike 31 = .ok (.bipush 13, 2) := by decide +kernel
theorem dL_areAlike_33 : decode cL_areAlike 33 = .ok (.if_icmp .ge 32, 3) := by decide +kernel
theorem dL_areAlike_36 : decode cL_areAlike 36 = .ok (.iload_n 2, 1) := by decide +kernel
theorem dL_areAlike_37 : decode cL_areAlike 37 = .ok (.ifCond .eq 20, 3) := by decide +kernel
theorem dL_areAlike_40 : decode cL_areAlike 40 = .ok (.aload_n 0, 1) := by decide +kernel
theorem dL_areAlike_41 : decode cL_areAlike 41 = .ok (.iload_n 3, 1) := by decide +kernel
theorem dL_areAlike_42 : decode cL_areAlike 42 = .ok (.invokevirtual 49, 3) := by decide +kernel
theorem dL_areAlike_45 : decode cL_areAlike 45 = .ok (.aload_n 1, 1) := by decide +kernel
theorem dL_areAlike_46 : decode cL_areAlike 46 = .ok (.iload_n 3, 1) := by decide +kernel
theorem dL_areAlike_47 : decode cL_areAlike 47 = .ok (.invokevirtual 49, 3) := by decide +kernel
theorem dL_areAlike_50 : decode cL_areAlike 50 = .ok (.if_icmp .ne 7, 3) := by decide +kernel
theorem dL_areAlike_53 : decode cL_areAlike 53 = .ok (.iconst 1, 1) := by decide +kernel
theorem dL_areAlike_54 : decode cL_areAlike 54 = .ok (.goto 4, 3) := by decide +kernel
theorem dL_areAlike_57 : decode cL_areAlike 57 = .ok (.iconst 0, 1) := by decide +kernel
theorem dL_areAlike_58 : decode cL_areAlike 58 = .ok (.istore_n 2, 1) := by decide +kernel
theorem dL_areAlike_59 : decode cL_areAlike 59 = .ok (.iinc 3 1, 3) := by decide +kernel
theorem dL_areAlike_62 : decode cL_areAlike 62 = .ok (.goto (-32), 3) := by decide +kernel
theorem dL_areAlike_65 : decode cL_areAlike 65 = .ok (.iconst 0, 1) := by decide +kernel
theorem dL_areAlike_66 : decode cL_areAlike 66 = .ok (.istore_n 3, 1) := by decide +kernel
theorem dL_areAlike_67 : decode cL_areAlike 67 = .ok (.iload_n 3, 1) := by decide +kernel
theorem dL_areAlike_68 : decode cL_areAlike 68 = .ok (.aload_n 0, 1) := by decide +kernel
theorem dL_areAlike_69 : decode cL_areAlike 69 = .ok (.iconst 4, 1) := by decide +kernel
theorem dL_areAlike_70 : decode cL_areAlike 70 = .ok (.invokevirtual 49, 3) := by decide +kernel
theorem dL_areAlike_73 : decode cL_areAlike 73 = .ok (.if_icmp .ge 32, 3) := by decide +kernel
theorem dL_areAlike_76 : decode cL_areAlike 76 = .ok (.iload_n 2, 1) := by decide +kernel
theorem dL_areAlike_77 : decode cL_areAlike 77 = .ok (.ifCond .eq 20, 3) := by decide +kernel
theorem dL_areAlike_80 : decode cL_areAlike 80 = .ok (.aload_n 0, 1) := by decide +kernel
theorem dL_areAlike_81 : decode cL_areAlike 81 = .ok (.iload_n 3, 1) := by decide +kernel
theorem dL_areAlike_82 : decode cL_areAlike 82 = .ok (.invokevirtual 58, 3) := by decide +kernel
theorem dL_areAlike_85 : decode cL_areAlike 85 = .ok (.aload_n 1, 1) := by decide +kernel
theorem dL_areAlike_86 : decode cL_areAlike 86 = .ok (.iload_n 3, 1) := by decide +kernel
theorem dL_areAlike_87 : decode cL_areAlike 87 = .ok (.invokevirtual 58, 3) := by decide +kernel
theorem dL_areAlike_90 : decode cL_areAlike 90 = .ok (.if_icmp .ne 7, 3) := by decide +kernel
theorem dL_areAlike_93 : decode cL_areAlike 93 = .ok (.iconst 1, 1) := by decide +kernel
theorem dL_areAlike_94 : decode cL_areAlike 94 = .ok (.goto 4, 3) := by decide +kernel
theorem dL_areAlike_97 : decode cL_areAlike 97 = .ok (.iconst 0, 1) := by decide +kernel
theorem dL_areAlike_98 : decode cL_areAlike 98 = .ok (.istore_n 2, 1) := by decide +kernel
theorem dL_areAlike_99 : decode cL_areAlike 99 = .ok (.iinc 3 1, 3) := by decide +kernel
theorem dL_areAlike_102 : decode cL_areAlike 102 = .ok (.goto (-35), 3) := by decide +kernel
theorem dL_areAlike_105 : decode cL_areAlike 105 = .ok (.iconst 0, 1) := by decide +kernel
theorem dL_areAlike_106 : decode cL_areAlike 106 = .ok (.istore_n 3, 1) := by decide +kernel
theorem dL_areAlike_107 : decode cL_areAlike 107 = .ok (.iload_n 3, 1) := by decide +kernel
theorem dL_areAlike_108 : decode cL_areAlike 108 = .ok (.aload_n 0, 1) := by decide +kernel
theorem dL_areAlike_109 : decode cL_areAlike 109 = .ok (.iconst 2, 1) := by decide +kernel
theorem dL_areAlike_110 : decode cL_areAlike 110 = .ok (.invokevirtual 49, 3) := by decide +kernel
theorem dL_areAlike_113 : decode cL_areAlike 113 = .ok (.if_icmp .ge 49, 3) := by decide +kernel
theorem dL_areAlike_116 : decode cL_areAlike 116 = .ok (.iload_n 2, 1) := by decide +kernel
theorem dL_areAlike_117 : decode cL_areAlike 117 = .ok (.ifCond .eq 37, 3) := by decide +kernel
theorem dL_areAlike_120 : decode cL_areAlike 120 = .ok (.aload_n 0, 1) := by decide +kernel
theorem dL_areAlike_121 : decode cL_areAlike 121 = .ok (.iload_n 3, 1) := by decide +kernel
theorem dL_areAlike_122 : decode cL_areAlike 122 = .ok (.iconst 0, 1) := by decide +kernel
theorem dL_areAlike_123 : decode cL_areAlike 123 = .ok (.invokevirtual 52, 3) := by decide +kernel
theorem dL_areAlike_126 : decode cL_areAlike 126 = .ok (.aload_n 1, 1) := by decide +kernel
theorem dL_areAlike_127 : decode cL_areAlike 127 = .ok (.iload_n 3, 1) := by decide +kernel
theorem dL_areAlike_128 : decode cL_areAlike 128 = .ok (.iconst 0, 1) := by decide +kernel
theorem dL_areAlike_129 : decode cL_areAlike 129 = .ok (.invokevirtual 52, 3) := by decide +kernel
theorem dL_areAlike_132 : decode cL_areAlike 132 = .ok (.if_icmp .ne 22, 3) := by decide +kernel
theorem dL_areAlike_135 : decode cL_areAlike 135 = .ok (.aload_n 0, 1) := by decide +kernel
theorem dL_areAlike_136 : decode cL_areAlike 136 = .ok (.iload_n 3, 1) := by decide +kernel
theorem dL_areAlike_137 : decode cL_areAlike 137 = .ok (.iconst 1, 1) := by decide +kernel
theorem dL_areAlike_138 : decode cL_areAlike 138 = .ok (.invokevirtual 52, 3) := by decide +kernel
theorem dL_areAlike_141 : decode cL_areAlike 141 = .ok (.aload_n 1, 1) := by decide +kernel
theorem dL_areAlike_142 : decode cL_areAlike 142 = .ok (.iload_n 3, 1) := by decide +kernel
theorem dL_areAlike_143 : decode cL_areAlike 143 = .ok (.iconst 1, 1) := by decide +kernel
theorem dL_areAlike_144 : decode cL_areAlike 144 = .ok (.invokevirtual 52, 3) := by decide +kernel
theorem dL_areAlike_147 : decode cL_areAlike 147 = .ok (.if_icmp .ne 7, 3) := by decide +kernel
theorem dL_areAlike_150 : decode cL_areAlike 150 = .ok (.iconst 1, 1) := by decide +kernel
theorem dL_areAlike_151 : decode cL_areAlike 151 = .ok (.goto 4, 3) := by decide +kernel
theorem dL_areAlike_154 : decode cL_areAlike 154 = .ok (.iconst 0, 1) := by decide +kernel
theorem dL_areAlike_155 : decode cL_areAlike 155 = .ok (.istore_n 2, 1) := by decide +kernel
theorem dL_areAlike_156 : decode cL_areAlike 156 = .ok (.iinc 3 1, 3) := by decide +kernel
theorem dL_areAlike_159 : decode cL_areAlike 159 = .ok (.goto (-52), 3) := by decide +kernel
theorem dL_areAlike_162 : decode cL_areAlike 162 = .ok (.iload_n 2, 1) := by decide +kernel
theorem dL_areAlike_163 : decode cL_areAlike 163 = .ok (.ireturn, 1) := by decide +kernel
theorem dL_wasTold_0 : decode cL_wasTold 0 = .ok (.aload_n 0, 1) := by decide +kernel
theorem dL_wasTold_1 : decode cL_wasTold 1 = .ok (.iconst 0, 1) := by decide +kernel
theorem dL_wasTold_2 : decode cL_wasTold 2 = .ok (.invokevirtual 49, 3) := by decide +kernel
theorem dL_wasTold_5 : decode cL_wasTold 5 = .ok (.iconst 3, 1) := by decide +kernel
theorem dL_wasTold_6 : decode cL_wasTold 6 = .ok (.if_icmp .eq 7, 3) := by decide +kernel
theorem dL_wasTold_9 : decode cL_wasTold 9 = .ok (.iconst 1, 1) := by decide +kernel
theorem dL_wasTold_10 : decode cL_wasTold 10 = .ok (.goto 4, 3) := by decide +kernel
theorem dL_wasTold_13 : decode cL_wasTold 13 = .ok (.iconst 0, 1) := by decide +kernel
theorem dL_wasTold_14 : decode cL_wasTold 14 = .ok (.istore_n 1, 1) := by decide +kernel
theorem dL_wasTold_15 : decode cL_wasTold 15 = .ok (.iconst 0, 1) := by decide +kernel
theorem dL_wasTold_16 : decode cL_wasTold 16 = .ok (.istore_n 2, 1) := by decide +kernel
theorem dL_wasTold_17 : decode cL_wasTold 17 = .ok (.iload_n 2, 1) := by decide +kernel
theorem dL_wasTold_18 : decode cL_wasTold 18 = .ok (.iconst 4, 1) := by decide +kernel
theorem dL_wasTold_19 : decode cL_wasTold 19 = .ok (.if_icmp .ge 35, 3) := by decide +kernel
theorem dL_wasTold_22 : decode cL_wasTold 22 = .ok (.iload_n 1, 1) := by decide +kernel
theorem dL_wasTold_23 : decode cL_wasTold 23 = .ok (.ifCond .ne 19, 3) := by decide +kernel
theorem dL_wasTold_26 : decode cL_wasTold 26 = .ok (.aload_n 0, 1) := by decide +kernel
theorem dL_wasTold_27 : decode cL_wasTold 27 = .ok (.iconst (-1), 1) := by decide +kernel
theorem dL_wasTold_28 : decode cL_wasTold 28 = .ok (.aload_n 0, 1) := by decide +kernel
theorem dL_wasTold_29 : decode cL_wasTold 29 = .ok (.bipush 10, 2) := by decide +kernel
theorem dL_wasTold_31 : decode cL_wasTold 31 = .ok (.invokevirtual 49, 3) := by decide +kernel
theorem dL_wasTold_34 : decode cL_wasTold 34 = .ok (.iload_n 2, 1) := by decide +kernel
theorem dL_wasTold_35 : decode cL_wasTold 35 = .ok (.invokevirtual 64, 3) := by decide +kernel
theorem dL_wasTold_38 : decode cL_wasTold 38 = .ok (.iconst 1, 1) := by decide +kernel
theorem dL_wasTold_39 : decode cL_wasTold 39 = .ok (.if_icmp .ne 7, 3) := by decide +kernel
theorem dL_wasTold_42 : decode cL_wasTold 42 = .ok (.iconst 1, 1) := by decide +kernel
theorem dL_wasTold_43 : decode cL_wasTold 43 = .ok (.goto 4, 3) := by decide +kernel
theorem dL_wasTold_46 : decode cL_wasTold 46 = .ok (.iconst 0, 1) := by decide +kernel
theorem dL_wasTold_47 : decode cL_wasTold 47 = .ok (.istore_n 1, 1) := by decide +kernel
theorem dL_wasTold_48 : decode cL_wasTold 48 = .ok (.iinc 2 1, 3) := by decide +kernel
theorem dL_wasTold_51 : decode cL_wasTold 51 = .ok (.goto (-34), 3) := by decide +kernel
theorem dL_wasTold_54 : decode cL_wasTold 54 = .ok (.iload_n 1, 1) := by decide +kernel
theorem dL_wasTold_55 : decode cL_wasTold 55 = .ok (.ireturn, 1) := by decide +kernel
theorem dL_defines_0 : decode cL_defines 0 = .ok (.aload_n 0, 1) := by decide +kernel
theorem dL_defines_1 : decode cL_defines 1 = .ok (.aload_n 2, 1) := by decide +kernel
theorem dL_defines_2 : decode cL_defines 2 = .ok (.bipush 20, 2) := by decide +kernel
theorem dL_defines_4 : decode cL_defines 4 = .ok (.bipush 10, 2) := by decide +kernel
theorem dL_defines_6 : decode cL_defines 6 = .ok (.iload 4, 2) := by decide +kernel
theorem dL_defines_8 : decode cL_defines 8 = .ok (.imul, 1) := by decide +kernel
theorem dL_defines_9 : decode cL_defines 9 = .ok (.iadd, 1) := by decide +kernel
theorem dL_defines_10 : decode cL_defines 10 = .ok (.aload_n 3, 1) := by decide +kernel
theorem dL_defines_11 : decode cL_defines 11 = .ok (.ldc 68, 2) := by decide +kernel
theorem dL_defines_13 : decode cL_defines 13 = .ok (.invokestatic 69, 3) := by decide +kernel
theorem dL_defines_16 : decode cL_defines 16 = .ok (.istore 5, 2) := by decide +kernel
theorem dL_defines_18 : decode cL_defines 18 = .ok (.aload_n 1, 1) := by decide +kernel
theorem dL_defines_19 : decode cL_defines 19 = .ok (.aload_n 2, 1) := by decide +kernel
theorem dL_defines_20 : decode cL_defines 20 = .ok (.bipush 20, 2) := by decide +kernel
theorem dL_defines_22 : decode cL_defines 22 = .ok (.bipush 10, 2) := by decide +kernel
theorem dL_defines_24 : decode cL_defines 24 = .ok (.iload 4, 2) := by decide +kernel
theorem dL_defines_26 : decode cL_defines 26 = .ok (.imul, 1) := by decide +kernel
theorem dL_defines_27 : decode cL_defines 27 = .ok (.iadd, 1) := by decide +kernel
theorem dL_defines_28 : decode cL_defines 28 = .ok (.aload_n 3, 1) := by decide +kernel
theorem dL_defines_29 : decode cL_defines 29 = .ok (.ldc 68, 2) := by decide +kernel
theorem dL_defines_31 : decode cL_defines 31 = .ok (.invokestatic 69, 3) := by decide +kernel
theorem dL_defines_34 : decode cL_defines 34 = .ok (.istore 6, 2) := by decide +kernel
theorem dL_defines_36 : decode cL_defines 36 = .ok (.iload 5, 2) := by decide +kernel
theorem dL_defines_38 : decode cL_defines 38 = .ok (.iload 6, 2) := by decide +kernel
theorem dL_defines_40 : decode cL_defines 40 = .ok (.if_icmp .ne 39, 3) := by decide +kernel
theorem dL_defines_43 : decode cL_defines 43 = .ok (.aload_n 0, 1) := by decide +kernel
theorem dL_defines_44 : decode cL_defines 44 = .ok (.iconst 1, 1) := by decide +kernel
theorem dL_defines_45 : decode cL_defines 45 = .ok (.invokevirtual 73, 3) := by decide +kernel
theorem dL_defines_48 : decode cL_defines 48 = .ok (.bipush (-9), 2) := by decide +kernel
theorem dL_defines_50 : decode cL_defines 50 = .ok (.if_icmp .ne 29, 3) := by decide +kernel
theorem dL_defines_53 : decode cL_defines 53 = .ok (.aload_n 0, 1) := by decide +kernel
theorem dL_defines_54 : decode cL_defines 54 = .ok (.iload 4, 2) := by decide +kernel
theorem dL_defines_56 : decode cL_defines 56 = .ok (.invokevirtual 76, 3) := by decide +kernel
theorem dL_defines_59 : decode cL_defines 59 = .ok (.iload 5, 2) := by decide +kernel
theorem dL_defines_61 : decode cL_defines 61 = .ok (.if_icmp .ne 18, 3) := by decide +kernel
theorem dL_defines_64 : decode cL_defines 64 = .ok (.aload_n 1, 1) := by decide +kernel
theorem dL_defines_65 : decode cL_defines 65 = .ok (.iload 4, 2) := by decide +kernel
theorem dL_defines_67 : decode cL_defines 67 = .ok (.invokevirtual 76, 3) := by decide +kernel
theorem dL_defines_70 : decode cL_defines 70 = .ok (.iload 5, 2) := by decide +kernel
theorem dL_defines_72 : decode cL_defines 72 = .ok (.if_icmp .ne 7, 3) := by decide +kernel
theorem dL_defines_75 : decode cL_defines 75 = .ok (.iconst 1, 1) := by decide +kernel
theorem dL_defines_76 : decode cL_defines 76 = .ok (.goto 4, 3) := by decide +kernel
theorem dL_defines_79 : decode cL_defines 79 = .ok (.iconst 0, 1) := by decide +kernel
theorem dL_defines_80 : decode cL_defines 80 = .ok (.ireturn, 1) := by decide +kernel
theorem dL_law_0 : decode cL_law 0 = .ok (.new 10, 3) := by decide +kernel
theorem dL_law_3 : decode cL_law 3 = .ok (.dup, 1) := by decide +kernel
theorem dL_law_4 : decode cL_law 4 = .ok (.invokespecial 79, 3) := by decide +kernel
theorem dL_law_7 : decode cL_law 7 = .ok (.astore_n 1, 1) := by decide +kernel
theorem dL_law_8 : decode cL_law 8 = .ok (.new 10, 3) := by decide +kernel
theorem dL_law_11 : decode cL_law 11 = .ok (.dup, 1) := by decide +kernel
theorem dL_law_12 : decode cL_law 12 = .ok (.invokespecial 79, 3) := by decide +kernel
theorem dL_law_15 : decode cL_law 15 = .ok (.astore_n 2, 1) := by decide +kernel
theorem dL_law_16 : decode cL_law 16 = .ok (.bipush 64, 2) := by decide +kernel
theorem dL_law_18 : decode cL_law 18 = .ok (.newarray .int, 2) := by decide +kernel
theorem dL_law_20 : decode cL_law 20 = .ok (.astore_n 3, 1) := by decide +kernel
theorem dL_law_21 : decode cL_law 21 = .ok (.aload_n 1, 1) := by decide +kernel
theorem dL_law_22 : decode cL_law 22 = .ok (.aload_n 2, 1) := by decide +kernel
theorem dL_law_23 : decode cL_law 23 = .ok (.aload_n 0, 1) := by decide +kernel
theorem dL_law_24 : decode cL_law 24 = .ok (.aload_n 3, 1) := by decide +kernel
theorem dL_law_25 : decode cL_law 25 = .ok (.iconst 0, 1) := by decide +kernel
theorem dL_law_26 : decode cL_law 26 = .ok (.invokestatic 80, 3) := by decide +kernel
theorem dL_law_29 : decode cL_law 29 = .ok (.ifCond .eq 14, 3) := by decide +kernel
theorem dL_law_32 : decode cL_law 32 = .ok (.aload_n 1, 1) := by decide +kernel
theorem dL_law_33 : decode cL_law 33 = .ok (.aload_n 2, 1) := by decide +kernel
theorem dL_law_34 : decode cL_law 34 = .ok (.aload_n 0, 1) := by decide +kernel
theorem dL_law_35 : decode cL_law 35 = .ok (.aload_n 3, 1) := by decide +kernel
theorem dL_law_36 : decode cL_law 36 = .ok (.iconst 1, 1) := by decide +kernel
theorem dL_law_37 : decode cL_law 37 = .ok (.invokestatic 80, 3) := by decide +kernel
theorem dL_law_40 : decode cL_law 40 = .ok (.ifCond .ne 5, 3) := by decide +kernel
theorem dL_law_43 : decode cL_law 43 = .ok (.iconst 0, 1) := by decide +kernel
theorem dL_law_44 : decode cL_law 44 = .ok (.ireturn, 1) := by decide +kernel
theorem dL_law_45 : decode cL_law 45 = .ok (.aload_n 1, 1) := by decide +kernel
theorem dL_law_46 : decode cL_law 46 = .ok (.aload_n 0, 1) := by decide +kernel
theorem dL_law_47 : decode cL_law 47 = .ok (.iconst 0, 1) := by decide +kernel
theorem dL_law_48 : decode cL_law 48 = .ok (.aload_n 3, 1) := by decide +kernel
theorem dL_law_49 : decode cL_law 49 = .ok (.iconst 0, 1) := by decide +kernel
theorem dL_law_50 : decode cL_law 50 = .ok (.invokestatic 69, 3) := by decide +kernel
theorem dL_law_53 : decode cL_law 53 = .ok (.istore 4, 2) := by decide +kernel
theorem dL_law_55 : decode cL_law 55 = .ok (.aload_n 2, 1) := by decide +kernel
theorem dL_law_56 : decode cL_law 56 = .ok (.aload_n 0, 1) := by decide +kernel
theorem dL_law_57 : decode cL_law 57 = .ok (.iconst 0, 1) := by decide +kernel
theorem dL_law_58 : decode cL_law 58 = .ok (.aload_n 3, 1) := by decide +kernel
theorem dL_law_59 : decode cL_law 59 = .ok (.iconst 0, 1) := by decide +kernel
theorem dL_law_60 : decode cL_law 60 = .ok (.invokestatic 69, 3) := by decide +kernel
theorem dL_law_63 : decode cL_law 63 = .ok (.istore 5, 2) := by decide +kernel
theorem dL_law_65 : decode cL_law 65 = .ok (.iload 4, 2) := by decide +kernel
theorem dL_law_67 : decode cL_law 67 = .ok (.iload 5, 2) := by decide +kernel
theorem dL_law_69 : decode cL_law 69 = .ok (.if_icmp .ne 49, 3) := by decide +kernel
theorem dL_law_72 : decode cL_law 72 = .ok (.aload_n 1, 1) := by decide +kernel
theorem dL_law_73 : decode cL_law 73 = .ok (.iconst 0, 1) := by decide +kernel
theorem dL_law_74 : decode cL_law 74 = .ok (.invokevirtual 73, 3) := by decide +kernel
theorem dL_law_77 : decode cL_law 77 = .ok (.bipush (-9), 2) := by decide +kernel
theorem dL_law_79 : decode cL_law 79 = .ok (.if_icmp .ne 39, 3) := by decide +kernel
theorem dL_law_82 : decode cL_law 82 = .ok (.aload_n 1, 1) := by decide +kernel
theorem dL_law_83 : decode cL_law 83 = .ok (.invokevirtual 84, 3) := by decide +kernel
theorem dL_law_86 : decode cL_law 86 = .ok (.iload 4, 2) := by decide +kernel
theorem dL_law_88 : decode cL_law 88 = .ok (.if_icmp .ne 30, 3) := by decide +kernel
theorem dL_law_91 : decode cL_law 91 = .ok (.aload_n 2, 1) := by decide +kernel
theorem dL_law_92 : decode cL_law 92 = .ok (.invokevirtual 84, 3) := by decide +kernel
theorem dL_law_95 : decode cL_law 95 = .ok (.iload 4, 2) := by decide +kernel
theorem dL_law_97 : decode cL_law 97 = .ok (.if_icmp .ne 21, 3) := by decide +kernel
theorem dL_law_100 : decode cL_law 100 = .ok (.aload_n 1, 1) := by decide +kernel
theorem dL_law_101 : decode cL_law 101 = .ok (.iconst 0, 1) := by decide +kernel
theorem dL_law_102 : decode cL_law 102 = .ok (.invokevirtual 49, 3) := by decide +kernel
theorem dL_law_105 : decode cL_law 105 = .ok (.iconst 1, 1) := by decide +kernel
theorem dL_law_106 : decode cL_law 106 = .ok (.if_icmp .ne 12, 3) := by decide +kernel
theorem dL_law_109 : decode cL_law 109 = .ok (.aload_n 1, 1) := by decide +kernel
theorem dL_law_110 : decode cL_law 110 = .ok (.iconst 0, 1) := by decide +kernel
theorem dL_law_111 : decode cL_law 111 = .ok (.invokevirtual 87, 3) := by decide +kernel
theorem dL_law_114 : decode cL_law 114 = .ok (.iconst (-1), 1) := by decide +kernel
theorem dL_law_115 : decode cL_law 115 = .ok (.if_icmp .eq 5, 3) := by decide +kernel
theorem dL_law_118 : decode cL_law 118 = .ok (.iconst 0, 1) := by decide +kernel
theorem dL_law_119 : decode cL_law 119 = .ok (.ireturn, 1) := by decide +kernel
theorem dL_law_120 : decode cL_law 120 = .ok (.iconst 0, 1) := by decide +kernel
theorem dL_law_121 : decode cL_law 121 = .ok (.istore 6, 2) := by decide +kernel
theorem dL_law_123 : decode cL_law 123 = .ok (.iconst 0, 1) := by decide +kernel
theorem dL_law_124 : decode cL_law 124 = .ok (.istore 7, 2) := by decide +kernel
theorem dL_law_126 : decode cL_law 126 = .ok (.iload 7, 2) := by decide +kernel
theorem dL_law_128 : decode cL_law 128 = .ok (.bipush 12, 2) := by decide +kernel
theorem dL_law_130 : decode cL_law 130 = .ok (.if_icmp .ge 357, 3) := by decide +kernel
theorem dL_law_133 : decode cL_law 133 = .ok (.aload_n 0, 1) := by decide +kernel
theorem dL_law_134 : decode cL_law 134 = .ok (.bipush 45, 2) := by decide +kernel
theorem dL_law_136 : decode cL_law 136 = .ok (.iload 7, 2) := by decide +kernel
theorem dL_law_138 : decode cL_law 138 = .ok (.iadd, 1) := by decide +kernel
theorem dL_law_139 : decode cL_law 139 = .ok (.invokestatic 26, 3) := by decide +kernel
theorem dL_law_142 : decode cL_law 142 = .ok (.istore 8, 2) := by decide +kernel
theorem dL_law_144 : decode cL_law 144 = .ok (.aload_n 1, 1) := by decide +kernel
theorem dL_law_145 : decode cL_law 145 = .ok (.iconst 0, 1) := by decide +kernel
theorem dL_law_146 : decode cL_law 146 = .ok (.invokevirtual 49, 3) := by decide +kernel
theorem dL_law_149 : decode cL_law 149 = .ok (.iconst 1, 1) := by decide +kernel
theorem dL_law_150 : decode cL_law 150 = .ok (.if_icmp .ne 100, 3) := by decide +kernel
theorem dL_law_153 : decode cL_law 153 = .ok (.iconst 1, 1) := by decide +kernel
theorem dL_law_154 : decode cL_law 154 = .ok (.iload 8, 2) := by decide +kernel
theorem dL_law_156 : decode cL_law 156 = .ok (.bipush 30, 2) := by decide +kernel
theorem dL_law_158 : decode cL_law 158 = .ok (.invokestatic 35, 3) := by decide +kernel
theorem dL_law_161 : decode cL_law 161 = .ok (.iadd, 1) := by decide +kernel
theorem dL_law_162 : decode cL_law 162 = .ok (.istore 9, 2) := by decide +kernel
theorem dL_law_164 : decode cL_law 164 = .ok (.aload_n 2, 1) := by decide +kernel
theorem dL_law_165 : decode cL_law 165 = .ok (.iload 9, 2) := by decide +kernel
theorem dL_law_167 : decode cL_law 167 = .ok (.invokevirtual 87, 3) := by decide +kernel
theorem dL_law_170 : decode cL_law 170 = .ok (.istore 10, 2) := by decide +kernel
theorem dL_law_172 : decode cL_law 172 = .ok (.iconst 0, 1) := by decide +kernel
theorem dL_law_173 : decode cL_law 173 = .ok (.istore 11, 2) := by decide +kernel
theorem dL_law_175 : decode cL_law 175 = .ok (.iload 11, 2) := by decide +kernel
theorem dL_law_177 : decode cL_law 177 = .ok (.iload 9, 2) := by decide +kernel
theorem dL_law_179 : decode cL_law 179 = .ok (.if_icmp .ge 44, 3) := by decide +kernel
theorem dL_law_182 : decode cL_law 182 = .ok (.aload_n 1, 1) := by decide +kernel
theorem dL_law_183 : decode cL_law 183 = .ok (.iconst 0, 1) := by decide +kernel
theorem dL_law_184 : decode cL_law 184 = .ok (.invokevirtual 49, 3) := by decide +kernel
theorem dL_law_187 : decode cL_law 187 = .ok (.iconst 1, 1) := by decide +kernel
theorem dL_law_188 : decode cL_law 188 = .ok (.if_icmp .ne 35, 3) := by decide +kernel
theorem dL_law_191 : decode cL_law 191 = .ok (.aload_n 1, 1) := by decide +kernel
theorem dL_law_192 : decode cL_law 192 = .ok (.iconst 1, 1) := by decide +kernel
theorem dL_law_193 : decode cL_law 193 = .ok (.invokevirtual 87, 3) := by decide +kernel
theorem dL_law_196 : decode cL_law 196 = .ok (.istore 12, 2) := by decide +kernel
theorem dL_law_198 : decode cL_law 198 = .ok (.iload 12, 2) := by decide +kernel
theorem dL_law_200 : decode cL_law 200 = .ok (.aload_n 1, 1) := by decide +kernel
theorem dL_law_201 : decode cL_law 201 = .ok (.iconst 0, 1) := by decide +kernel
theorem dL_law_202 : decode cL_law 202 = .ok (.invokevirtual 49, 3) := by decide +kernel
theorem dL_law_205 : decode cL_law 205 = .ok (.if_icmp .ne 10, 3) := by decide +kernel
theorem dL_law_208 : decode cL_law 208 = .ok (.aload_n 1, 1) := by decide +kernel
theorem dL_law_209 : decode cL_law 209 = .ok (.invokestatic 90, 3) := by decide +kernel
theorem dL_law_212 : decode cL_law 212 = .ok (.ifCond .ne 5, 3) := by decide +kernel
theorem dL_law_215 : decode cL_law 215 = .ok (.iconst 0, 1) := by decide +kernel
theorem dL_law_216 : decode cL_law 216 = .ok (.ireturn, 1) := by decide +kernel
theorem dL_law_217 : decode cL_law 217 = .ok (.iinc 11 1, 3) := by decide +kernel
theorem dL_law_220 : decode cL_law 220 = .ok (.goto (-45), 3) := by decide +kernel
theorem dL_law_223 : decode cL_law 223 = .ok (.aload_n 1, 1) := by decide +kernel
theorem dL_law_224 : decode cL_law 224 = .ok (.iconst 0, 1) := by decide +kernel
theorem dL_law_225 : decode cL_law 225 = .ok (.invokevirtual 49, 3) := by decide +kernel
theorem dL_law_228 : decode cL_law 228 = .ok (.iload 10, 2) := by decide +kernel
theorem dL_law_230 : decode cL_law 230 = .ok (.if_icmp .ne 15, 3) := by decide +kernel
theorem dL_law_233 : decode cL_law 233 = .ok (.iload 6, 2) := by decide +kernel
theorem dL_law_235 : decode cL_law 235 = .ok (.ifCond .ne 12, 3) := by decide +kernel
theorem dL_law_238 : decode cL_law 238 = .ok (.aload_n 1, 1) := by decide +kernel
theorem dL_law_239 : decode cL_law 239 = .ok (.invokestatic 94, 3) := by decide +kernel
theorem dL_law_242 : decode cL_law 242 = .ok (.ifCond .ne 5, 3) := by decide +kernel
theorem dL_law_245 : decode cL_law 245 = .ok (.iconst 0, 1) := by decide +kernel
theorem dL_law_246 : decode cL_law 246 = .ok (.ireturn, 1) := by decide +kernel
theorem dL_law_247 : decode cL_law 247 = .ok (.goto 156, 3) := by decide +kernel
theorem dL_law_250 : decode cL_law 250 = .ok (.aload_n 1, 1) := by decide +kernel
theorem dL_law_251 : decode cL_law 251 = .ok (.iconst 0, 1) := by decide +kernel
theorem dL_law_252 : decode cL_law 252 = .ok (.invokevirtual 49, 3) := by decide +kernel
theorem dL_law_255 : decode cL_law 255 = .ok (.iconst 3, 1) := by decide +kernel
theorem dL_law_256 : decode cL_law 256 = .ok (.if_icmp .ne 115, 3) := by decide +kernel
theorem dL_law_259 : decode cL_law 259 = .ok (.iload 8, 2) := by decide +kernel
theorem dL_law_261 : decode cL_law 261 = .ok (.iconst 3, 1) := by decide +kernel
theorem dL_law_262 : decode cL_law 262 = .ok (.ishr, 1) := by decide +kernel
theorem dL_law_263 : decode cL_law 263 = .ok (.bipush 9, 2) := by decide +kernel
theorem dL_law_265 : decode cL_law 265 = .ok (.invokestatic 35, 3) := by decide +kernel
theorem dL_law_268 : decode cL_law 268 = .ok (.istore 9, 2) := by decide +kernel
theorem dL_law_270 : decode cL_law 270 = .ok (.iload 8, 2) := by decide +kernel
theorem dL_law_272 : decode cL_law 272 = .ok (.iconst 3, 1) := by decide +kernel
theorem dL_law_273 : decode cL_law 273 = .ok (.invokestatic 35, 3) := by decide +kernel
theorem dL_law_276 : decode cL_law 276 = .ok (.ifCond .ne 7, 3) := by decide +kernel
theorem dL_law_279 : decode cL_law 279 = .ok (.iconst 1, 1) := by decide +kernel
theorem dL_law_280 : decode cL_law 280 = .ok (.goto 4, 3) := by decide +kernel
theorem dL_law_283 : decode cL_law 283 = .ok (.iconst 0, 1) := by decide +kernel
theorem dL_law_284 : decode cL_law 284 = .ok (.istore 10, 2) := by decide +kernel
theorem dL_law_286 : decode cL_law 286 = .ok (.iload 6, 2) := by decide +kernel
theorem dL_law_288 : decode cL_law 288 = .ok (.ifCond .ne 8, 3) := by decide +kernel
theorem dL_law_291 : decode cL_law 291 = .ok (.iload 10, 2) := by decide +kernel
theorem dL_law_293 : decode cL_law 293 = .ok (.ifCond .eq 7, 3) := by decide +kernel
theorem dL_law_296 : decode cL_law 296 = .ok (.iconst 1, 1) := by decide +kernel
theorem dL_law_297 : decode cL_law 297 = .ok (.goto 4, 3) := by decide +kernel
theorem dL_law_300 : decode cL_law 300 = .ok (.iconst 0, 1) := by decide +kernel
theorem dL_law_301 : decode cL_law 301 = .ok (.istore 6, 2) := by decide +kernel
theorem dL_law_303 : decode cL_law 303 = .ok (.iload 10, 2) := by decide +kernel
theorem dL_law_305 : decode cL_law 305 = .ok (.ifCond .eq 21, 3) := by decide +kernel
theorem dL_law_308 : decode cL_law 308 = .ok (.aload_n 1, 1) := by decide +kernel
theorem dL_law_309 : decode cL_law 309 = .ok (.iload 9, 2) := by decide +kernel
theorem dL_law_311 : decode cL_law 311 = .ok (.invokevirtual 97, 3) := by decide +kernel
theorem dL_law_314 : decode cL_law 314 = .ok (.aload_n 2, 1) := by decide +kernel
theorem dL_law_315 : decode cL_law 315 = .ok (.iload 9, 2) := by decide +kernel
theorem dL_law_317 : decode cL_law 317 = .ok (.invokevirtual 97, 3) := by decide +kernel
theorem dL_law_320 : decode cL_law 320 = .ok (.if_icmp .eq 23, 3) := by decide +kernel
theorem dL_law_323 : decode cL_law 323 = .ok (.goto 18, 3) := by decide +kernel
theorem dL_law_326 : decode cL_law 326 = .ok (.aload_n 1, 1) := by decide +kernel
theorem dL_law_327 : decode cL_law 327 = .ok (.iload 9, 2) := by decide +kernel
theorem dL_law_329 : decode cL_law 329 = .ok (.invokevirtual 100, 3) := by decide +kernel
theorem dL_law_332 : decode cL_law 332 = .ok (.aload_n 2, 1) := by decide +kernel
theorem dL_law_333 : decode cL_law 333 = .ok (.iload 9, 2) := by decide +kernel
theorem dL_law_335 : decode cL_law 335 = .ok (.invokevirtual 100, 3) := by decide +kernel
theorem dL_law_338 : decode cL_law 338 = .ok (.if_icmp .eq 5, 3) := by decide +kernel
theorem dL_law_341 : decode cL_law 341 = .ok (.iconst 0, 1) := by decide +kernel
theorem dL_law_342 : decode cL_law 342 = .ok (.ireturn, 1) := by decide +kernel
theorem dL_law_343 : decode cL_law 343 = .ok (.iload 10, 2) := by decide +kernel
theorem dL_law_345 : decode cL_law 345 = .ok (.ifCond .eq 23, 3) := by decide +kernel
theorem dL_law_348 : decode cL_law 348 = .ok (.aload_n 1, 1) := by decide +kernel
theorem dL_law_349 : decode cL_law 349 = .ok (.iconst 2, 1) := by decide +kernel
theorem dL_law_350 : decode cL_law 350 = .ok (.invokevirtual 49, 3) := by decide +kernel
theorem dL_law_353 : decode cL_law 353 = .ok (.iconst 1, 1) := by decide +kernel
theorem dL_law_354 : decode cL_law 354 = .ok (.if_icmp .eq 14, 3) := by decide +kernel
theorem dL_law_357 : decode cL_law 357 = .ok (.aload_n 1, 1) := by decide +kernel
theorem dL_law_358 : decode cL_law 358 = .ok (.iconst 0, 1) := by decide +kernel
theorem dL_law_359 : decode cL_law 359 = .ok (.invokevirtual 49, 3) := by decide +kernel
theorem dL_law_362 : decode cL_law 362 = .ok (.iconst 1, 1) := by decide +kernel
theorem dL_law_363 : decode cL_law 363 = .ok (.if_icmp .ne 5, 3) := by decide +kernel
theorem dL_law_366 : decode cL_law 366 = .ok (.iconst 0, 1) := by decide +kernel
theorem dL_law_367 : decode cL_law 367 = .ok (.ireturn, 1) := by decide +kernel
theorem dL_law_368 : decode cL_law 368 = .ok (.goto 35, 3) := by decide +kernel
theorem dL_law_371 : decode cL_law 371 = .ok (.aload_n 1, 1) := by decide +kernel
theorem dL_law_372 : decode cL_law 372 = .ok (.iconst 1, 1) := by decide +kernel
theorem dL_law_373 : decode cL_law 373 = .ok (.invokevirtual 87, 3) := by decide +kernel
theorem dL_law_376 : decode cL_law 376 = .ok (.bipush (-2), 2) := by decide +kernel
theorem dL_law_378 : decode cL_law 378 = .ok (.if_icmp .ne 23, 3) := by decide +kernel
theorem dL_law_381 : decode cL_law 381 = .ok (.aload_n 1, 1) := by decide +kernel
theorem dL_law_382 : decode cL_law 382 = .ok (.iconst 1, 1) := by decide +kernel
theorem dL_law_383 : decode cL_law 383 = .ok (.invokevirtual 100, 3) := by decide +kernel
theorem dL_law_386 : decode cL_law 386 = .ok (.bipush (-2), 2) := by decide +kernel
theorem dL_law_388 : decode cL_law 388 = .ok (.if_icmp .ne 13, 3) := by decide +kernel
theorem dL_law_391 : decode cL_law 391 = .ok (.aload_n 1, 1) := by decide +kernel
theorem dL_law_392 : decode cL_law 392 = .ok (.iconst 1, 1) := by decide +kernel
theorem dL_law_393 : decode cL_law 393 = .ok (.invokevirtual 97, 3) := by decide +kernel
theorem dL_law_396 : decode cL_law 396 = .ok (.bipush (-2), 2) := by decide +kernel
theorem dL_law_398 : decode cL_law 398 = .ok (.if_icmp .eq 5, 3) := by decide +kernel
theorem dL_law_401 : decode cL_law 401 = .ok (.iconst 0, 1) := by decide +kernel
theorem dL_law_402 : decode cL_law 402 = .ok (.ireturn, 1) := by decide +kernel
theorem dL_law_403 : decode cL_law 403 = .ok (.aload_n 1, 1) := by decide +kernel
theorem dL_law_404 : decode cL_law 404 = .ok (.aload_n 2, 1) := by decide +kernel
theorem dL_law_405 : decode cL_law 405 = .ok (.invokestatic 103, 3) := by decide +kernel
theorem dL_law_408 : decode cL_law 408 = .ok (.ifCond .ne 5, 3) := by decide +kernel
theorem dL_law_411 : decode cL_law 411 = .ok (.iconst 0, 1) := by decide +kernel
theorem dL_law_412 : decode cL_law 412 = .ok (.ireturn, 1) := by decide +kernel
theorem dL_law_413 : decode cL_law 413 = .ok (.iload 7, 2) := by decide +kernel
theorem dL_law_415 : decode cL_law 415 = .ok (.iconst 5, 1) := by decide +kernel
theorem dL_law_416 : decode cL_law 416 = .ok (.if_icmp .ne 65, 3) := by decide +kernel
theorem dL_law_419 : decode cL_law 419 = .ok (.aload_n 1, 1) := by decide +kernel
theorem dL_law_420 : decode cL_law 420 = .ok (.iconst 0, 1) := by decide +kernel
theorem dL_law_421 : decode cL_law 421 = .ok (.invokevirtual 107, 3) := by decide +kernel
theorem dL_law_424 : decode cL_law 424 = .ok (.istore 9, 2) := by decide +kernel
theorem dL_law_426 : decode cL_law 426 = .ok (.aload_n 1, 1) := by decide +kernel
theorem dL_law_427 : decode cL_law 427 = .ok (.iconst 0, 1) := by decide +kernel
theorem dL_law_428 : decode cL_law 428 = .ok (.invokevirtual 49, 3) := by decide +kernel
theorem dL_law_431 : decode cL_law 431 = .ok (.istore 10, 2) := by decide +kernel
theorem dL_law_433 : decode cL_law 433 = .ok (.aload_n 1, 1) := by decide +kernel
theorem dL_law_434 : decode cL_law 434 = .ok (.invokevirtual 110, 3) := by decide +kernel
theorem dL_law_437 : decode cL_law 437 = .ok (.istore 11, 2) := by decide +kernel
theorem dL_law_439 : decode cL_law 439 = .ok (.iload 9, 2) := by decide +kernel
theorem dL_law_441 : decode cL_law 441 = .ok (.iload 10, 2) := by decide +kernel
theorem dL_law_443 : decode cL_law 443 = .ok (.if_icmp .ne 36, 3) := by decide +kernel
theorem dL_law_446 : decode cL_law 446 = .ok (.iload 11, 2) := by decide +kernel
theorem dL_law_448 : decode cL_law 448 = .ok (.iload 10, 2) := by decide +kernel
theorem dL_law_450 : decode cL_law 450 = .ok (.if_icmp .ne 29, 3) := by decide +kernel
theorem dL_law_453 : decode cL_law 453 = .ok (.aload_n 1, 1) := by decide +kernel
theorem dL_law_454 : decode cL_law 454 = .ok (.iconst 1, 1) := by decide +kernel
theorem dL_law_455 : decode cL_law 455 = .ok (.invokevirtual 49, 3) := by decide +kernel
theorem dL_law_458 : decode cL_law 458 = .ok (.ifCond .ne 21, 3) := by decide +kernel
theorem dL_law_461 : decode cL_law 461 = .ok (.aload_n 1, 1) := by decide +kernel
theorem dL_law_462 : decode cL_law 462 = .ok (.iconst 0, 1) := by decide +kernel
theorem dL_law_463 : decode cL_law 463 = .ok (.invokevirtual 113, 3) := by decide +kernel
theorem dL_law_466 : decode cL_law 466 = .ok (.iload 10, 2) := by decide +kernel
theorem dL_law_468 : decode cL_law 468 = .ok (.if_icmp .ne 11, 3) := by decide +kernel
theorem dL_law_471 : decode cL_law 471 = .ok (.aload_n 1, 1) := by decide +kernel
theorem dL_law_472 : decode cL_law 472 = .ok (.aload_n 2, 1) := by decide +kernel
theorem dL_law_473 : decode cL_law 473 = .ok (.invokestatic 103, 3) := by decide +kernel
theorem dL_law_476 : decode cL_law 476 = .ok (.ifCond .ne 5, 3) := by decide +kernel
theorem dL_law_479 : decode cL_law 479 = .ok (.iconst 0, 1) := by decide +kernel
theorem dL_law_480 : decode cL_law 480 = .ok (.ireturn, 1) := by decide +kernel
theorem dL_law_481 : decode cL_law 481 = .ok (.iinc 7 1, 3) := by decide +kernel
theorem dL_law_484 : decode cL_law 484 = .ok (.goto (-358), 3) := by decide +kernel
theorem dL_law_487 : decode cL_law 487 = .ok (.aload_n 1, 1) := by decide +kernel
theorem dL_law_488 : decode cL_law 488 = .ok (.iconst 1, 1) := by decide +kernel
theorem dL_law_489 : decode cL_law 489 = .ok (.invokevirtual 113, 3) := by decide +kernel
theorem dL_law_492 : decode cL_law 492 = .ok (.bipush (-2), 2) := by decide +kernel
theorem dL_law_494 : decode cL_law 494 = .ok (.if_icmp .ne 16, 3) := by decide +kernel
theorem dL_law_497 : decode cL_law 497 = .ok (.aload_n 1, 1) := by decide +kernel
theorem dL_law_498 : decode cL_law 498 = .ok (.iconst 2, 1) := by decide +kernel
theorem dL_law_499 : decode cL_law 499 = .ok (.invokevirtual 107, 3) := by decide +kernel
theorem dL_law_502 : decode cL_law 502 = .ok (.iconst (-1), 1) := by decide +kernel
theorem dL_law_503 : decode cL_law 503 = .ok (.if_icmp .ne 7, 3) := by decide +kernel
theorem dL_law_506 : decode cL_law 506 = .ok (.iconst 1, 1) := by decide +kernel
theorem dL_law_507 : decode cL_law 507 = .ok (.goto 4, 3) := by decide +kernel
theorem dL_law_510 : decode cL_law 510 = .ok (.iconst 0, 1) := by decide +kernel
theorem dL_law_511 : decode cL_law 511 = .ok (.ireturn, 1) := by decide +kernel
