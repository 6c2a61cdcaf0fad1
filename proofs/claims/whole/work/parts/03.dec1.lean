theorem dX10_copyFrom_4 : decode cX10_copyFrom 4 = .ok (.getfield 17, 3) := by decide +kernel
theorem dX10_copyFrom_7 : decode cX10_copyFrom 7 = .ok (.if_icmp .ge 21, 3) := by decide +kernel
theorem dX10_copyFrom_10 : decode cX10_copyFrom 10 = .ok (.aload_n 0, 1) := by decide +kernel
theorem dX10_copyFrom_11 : decode cX10_copyFrom 11 = .ok (.getfield 11, 3) := by decide +kernel
theorem dX10_copyFrom_14 : decode cX10_copyFrom 14 = .ok (.iload_n 2, 1) := by decide +kernel
theorem dX10_copyFrom_15 : decode cX10_copyFrom 15 = .ok (.aload_n 1, 1) := by decide +kernel
theorem dX10_copyFrom_16 : decode cX10_copyFrom 16 = .ok (.getfield 11, 3) := by decide +kernel
theorem dX10_copyFrom_19 : decode cX10_copyFrom 19 = .ok (.iload_n 2, 1) := by decide +kernel
theorem dX10_copyFrom_20 : decode cX10_copyFrom 20 = .ok (.aaload, 1) := by decide +kernel
theorem dX10_copyFrom_21 : decode cX10_copyFrom 21 = .ok (.aastore, 1) := by decide +kernel
theorem dX10_copyFrom_22 : decode cX10_copyFrom 22 = .ok (.iinc 2 1, 3) := by decide +kernel
theorem dX10_copyFrom_25 : decode cX10_copyFrom 25 = .ok (.goto (-23), 3) := by decide +kernel
theorem dX10_copyFrom_28 : decode cX10_copyFrom 28 = .ok (.aload_n 0, 1) := by decide +kernel
theorem dX10_copyFrom_29 : decode cX10_copyFrom 29 = .ok (.aload_n 1, 1) := by decide +kernel
theorem dX10_copyFrom_30 : decode cX10_copyFrom 30 = .ok (.getfield 17, 3) := by decide +kernel
theorem dX10_copyFrom_33 : decode cX10_copyFrom 33 = .ok (.putfield 17, 3) := by decide +kernel
theorem dX10_copyFrom_36 : decode cX10_copyFrom 36 = .ok (.aload_n 0, 1) := by decide +kernel
theorem dX10_copyFrom_37 : decode cX10_copyFrom 37 = .ok (.aload_n 1, 1) := by decide +kernel
theorem dX10_copyFrom_38 : decode cX10_copyFrom 38 = .ok (.getfield 21, 3) := by decide +kernel
theorem dX10_copyFrom_41 : decode cX10_copyFrom 41 = .ok (.putfield 21, 3) := by decide +kernel
theorem dX10_copyFrom_44 : decode cX10_copyFrom 44 = .ok (.return_, 1) := by decide +kernel
theorem dX10_hasRoomFor_0 : decode cX10_hasRoomFor 0 = .ok (.aload_n 0, 1) := by decide +kernel
theorem dX10_hasRoomFor_1 : decode cX10_hasRoomFor 1 = .ok (.getfield 17, 3) := by decide +kernel
theorem dX10_hasRoomFor_4 : decode cX10_hasRoomFor 4 = .ok (.iload_n 1, 1) := by decide +kernel
theorem dX10_hasRoomFor_5 : decode cX10_hasRoomFor 5 = .ok (.iadd, 1) := by decide +kernel
theorem dX10_hasRoomFor_6 : decode cX10_hasRoomFor 6 = .ok (.bipush 100, 2) := by decide +kernel
theorem dX10_hasRoomFor_8 : decode cX10_hasRoomFor 8 = .ok (.if_icmp .gt 7, 3) := by decide +kernel
theorem dX10_hasRoomFor_11 : decode cX10_hasRoomFor 11 = .ok (.iconst 1, 1) := by decide +kernel
theorem dX10_hasRoomFor_12 : decode cX10_hasRoomFor 12 = .ok (.goto 4, 3) := by decide +kernel
theorem dX10_hasRoomFor_15 : decode cX10_hasRoomFor 15 = .ok (.iconst 0, 1) := by decide +kernel
theorem dX10_hasRoomFor_16 : decode cX10_hasRoomFor 16 = .ok (.ireturn, 1) := by decide +kernel
theorem dX10_push_0 : decode cX10_push 0 = .ok (.aload_n 0, 1) := by decide +kernel
theorem dX10_push_1 : decode cX10_push 1 = .ok (.getfield 17, 3) := by decide +kernel
theorem dX10_push_4 : decode cX10_push 4 = .ok (.aload_n 0, 1) := by decide +kernel
theorem dX10_push_5 : decode cX10_push 5 = .ok (.getfield 11, 3) := by decide +kernel
theorem dX10_push_8 : decode cX10_push 8 = .ok (.arraylength, 1) := by decide +kernel
theorem dX10_push_9 : decode cX10_push 9 = .ok (.if_icmp .ge 38, 3) := by decide +kernel
theorem dX10_push_12 : decode cX10_push 12 = .ok (.aload_n 0, 1) := by decide +kernel
theorem dX10_push_13 : decode cX10_push 13 = .ok (.getfield 11, 3) := by decide +kernel
theorem dX10_push_16 : decode cX10_push 16 = .ok (.aload_n 0, 1) := by decide +kernel
theorem dX10_push_17 : decode cX10_push 17 = .ok (.getfield 17, 3) := by decide +kernel
theorem dX10_push_20 : decode cX10_push 20 = .ok (.aload_n 1, 1) := by decide +kernel
theorem dX10_push_21 : decode cX10_push 21 = .ok (.aastore, 1) := by decide +kernel
theorem dX10_push_22 : decode cX10_push 22 = .ok (.aload_n 0, 1) := by decide +kernel
theorem dX10_push_23 : decode cX10_push 23 = .ok (.dup, 1) := by decide +kernel
theorem dX10_push_24 : decode cX10_push 24 = .ok (.getfield 17, 3) := by decide +kernel
theorem dX10_push_27 : decode cX10_push 27 = .ok (.iconst 1, 1) := by decide +kernel
theorem dX10_push_28 : decode cX10_push 28 = .ok (.iadd, 1) := by decide +kernel
theorem dX10_push_29 : decode cX10_push 29 = .ok (.putfield 17, 3) := by decide +kernel
theorem dX10_push_32 : decode cX10_push 32 = .ok (.aload_n 0, 1) := by decide +kernel
theorem dX10_push_33 : decode cX10_push 33 = .ok (.aload_n 0, 1) := by decide +kernel
theorem dX10_push_34 : decode cX10_push 34 = .ok (.getfield 21, 3) := by decide +kernel
theorem dX10_push_37 : decode cX10_push 37 = .ok (.aload_n 0, 1) := by decide +kernel
theorem dX10_push_38 : decode cX10_push 38 = .ok (.getfield 17, 3) := by decide +kernel
theorem dX10_push_41 : decode cX10_push 41 = .ok (.invokestatic 24, 3) := by decide +kernel
theorem dX10_push_44 : decode cX10_push 44 = .ok (.putfield 21, 3) := by decide +kernel
theorem dX10_push_47 : decode cX10_push 47 = .ok (.return_, 1) := by decide +kernel
theorem dX10_pop_0 : decode cX10_pop 0 = .ok (.aload_n 0, 1) := by decide +kernel
theorem dX10_pop_1 : decode cX10_pop 1 = .ok (.getfield 17, 3) := by decide +kernel
theorem dX10_pop_4 : decode cX10_pop 4 = .ok (.ifCond .le 13, 3) := by decide +kernel
theorem dX10_pop_7 : decode cX10_pop 7 = .ok (.aload_n 0, 1) := by decide +kernel
theorem dX10_pop_8 : decode cX10_pop 8 = .ok (.dup, 1) := by decide +kernel
theorem dX10_pop_9 : decode cX10_pop 9 = .ok (.getfield 17, 3) := by decide +kernel
theorem dX10_pop_12 : decode cX10_pop 12 = .ok (.iconst 1, 1) := by decide +kernel
theorem dX10_pop_13 : decode cX10_pop 13 = .ok (.isub, 1) := by decide +kernel
theorem dX10_pop_14 : decode cX10_pop 14 = .ok (.putfield 17, 3) := by decide +kernel
theorem dX10_pop_17 : decode cX10_pop 17 = .ok (.return_, 1) := by decide +kernel
theorem dX10_below_0 : decode cX10_below 0 = .ok (.iload_n 1, 1) := by decide +kernel
theorem dX10_below_1 : decode cX10_below 1 = .ok (.ifCond .lt 27, 3) := by decide +kernel
theorem dX10_below_4 : decode cX10_below 4 = .ok (.iload_n 1, 1) := by decide +kernel
theorem dX10_below_5 : decode cX10_below 5 = .ok (.aload_n 0, 1) := by decide +kernel
theorem dX10_below_6 : decode cX10_below 6 = .ok (.getfield 17, 3) := by decide +kernel
theorem dX10_below_9 : decode cX10_below 9 = .ok (.if_icmp .ge 19, 3) := by decide +kernel
theorem dX10_below_12 : decode cX10_below 12 = .ok (.aload_n 0, 1) := by decide +kernel
theorem dX10_below_13 : decode cX10_below 13 = .ok (.getfield 11, 3) := by decide +kernel
theorem dX10_below_16 : decode cX10_below 16 = .ok (.aload_n 0, 1) := by decide +kernel
theorem dX10_below_17 : decode cX10_below 17 = .ok (.getfield 17, 3) := by decide +kernel
theorem dX10_below_20 : decode cX10_below 20 = .ok (.iconst 1, 1) := by decide +kernel
theorem dX10_below_21 : decode cX10_below 21 = .ok (.isub, 1) := by decide +kernel
theorem dX10_below_22 : decode cX10_below 22 = .ok (.iload_n 1, 1) := by decide +kernel
theorem dX10_below_23 : decode cX10_below 23 = .ok (.isub, 1) := by decide +kernel
theorem dX10_below_24 : decode cX10_below 24 = .ok (.aaload, 1) := by decide +kernel
theorem dX10_below_25 : decode cX10_below 25 = .ok (.goto 4, 3) := by decide +kernel
theorem dX10_below_28 : decode cX10_below 28 = .ok (.aconst_null, 1) := by decide +kernel
theorem dX10_below_29 : decode cX10_below 29 = .ok (.areturn, 1) := by decide +kernel
theorem dX10_popDownTo_0 : decode cX10_popDownTo 0 = .ok (.iconst 0, 1) := by decide +kernel
theorem dX10_popDownTo_1 : decode cX10_popDownTo 1 = .ok (.aload_n 0, 1) := by decide +kernel
theorem dX10_popDownTo_2 : decode cX10_popDownTo 2 = .ok (.getfield 17, 3) := by decide +kernel
theorem dX10_popDownTo_5 : decode cX10_popDownTo 5 = .ok (.iload_n 1, 1) := by decide +kernel
theorem dX10_popDownTo_6 : decode cX10_popDownTo 6 = .ok (.isub, 1) := by decide +kernel
theorem dX10_popDownTo_7 : decode cX10_popDownTo 7 = .ok (.invokestatic 24, 3) := by decide +kernel
theorem dX10_popDownTo_10 : decode cX10_popDownTo 10 = .ok (.anewarray 9, 3) := by decide +kernel
theorem dX10_popDownTo_13 : decode cX10_popDownTo 13 = .ok (.astore_n 2, 1) := by decide +kernel
theorem dX10_popDownTo_14 : decode cX10_popDownTo 14 = .ok (.iconst 0, 1) := by decide +kernel
theorem dX10_popDownTo_15 : decode cX10_popDownTo 15 = .ok (.istore_n 3, 1) := by decide +kernel
theorem dX10_popDownTo_16 : decode cX10_popDownTo 16 = .ok (.iload_n 3, 1) := by decide +kernel
theorem dX10_popDownTo_17 : decode cX10_popDownTo 17 = .ok (.aload_n 2, 1) := by decide +kernel
theorem dX10_popDownTo_18 : decode cX10_popDownTo 18 = .ok (.arraylength, 1) := by decide +kernel
theorem dX10_popDownTo_19 : decode cX10_popDownTo 19 = .ok (.if_icmp .ge 20, 3) := by decide +kernel
theorem dX10_popDownTo_22 : decode cX10_popDownTo 22 = .ok (.aload_n 2, 1) := by decide +kernel
theorem dX10_popDownTo_23 : decode cX10_popDownTo 23 = .ok (.iload_n 3, 1) := by decide +kernel
theorem dX10_popDownTo_24 : decode cX10_popDownTo 24 = .ok (.aload_n 0, 1) := by decide +kernel
theorem dX10_popDownTo_25 : decode cX10_popDownTo 25 = .ok (.getfield 11, 3) := by decide +kernel
theorem dX10_popDownTo_28 : decode cX10_popDownTo 28 = .ok (.iload_n 1, 1) := by decide +kernel
theorem dX10_popDownTo_29 : decode cX10_popDownTo 29 = .ok (.iload_n 3, 1) := by decide +kernel
theorem dX10_popDownTo_30 : decode cX10_popDownTo 30 = .ok (.iadd, 1) := by decide +kernel
theorem dX10_popDownTo_31 : decode cX10_popDownTo 31 = .ok (.aaload, 1) := by decide +kernel
theorem dX10_popDownTo_32 : decode cX10_popDownTo 32 = .ok (.aastore, 1) := by decide +kernel
theorem dX10_popDownTo_33 : decode cX10_popDownTo 33 = .ok (.iinc 3 1, 3) := by decide +kernel
theorem dX10_popDownTo_36 : decode cX10_popDownTo 36 = .ok (.goto (-20), 3) := by decide +kernel
theorem dX10_popDownTo_39 : decode cX10_popDownTo 39 = .ok (.aload_n 0, 1) := by decide +kernel
theorem dX10_popDownTo_40 : decode cX10_popDownTo 40 = .ok (.dup, 1) := by decide +kernel
theorem dX10_popDownTo_41 : decode cX10_popDownTo 41 = .ok (.getfield 17, 3) := by decide +kernel
theorem dX10_popDownTo_44 : decode cX10_popDownTo 44 = .ok (.aload_n 2, 1) := by decide +kernel
theorem dX10_popDownTo_45 : decode cX10_popDownTo 45 = .ok (.arraylength, 1) := by decide +kernel
theorem dX10_popDownTo_46 : decode cX10_popDownTo 46 = .ok (.isub, 1) := by decide +kernel
theorem dX10_popDownTo_47 : decode cX10_popDownTo 47 = .ok (.putfield 17, 3) := by decide +kernel
theorem dX10_popDownTo_50 : decode cX10_popDownTo 50 = .ok (.aload_n 2, 1) := by decide +kernel
theorem dX10_popDownTo_51 : decode cX10_popDownTo 51 = .ok (.areturn, 1) := by decide +kernel
theorem dX10_placeOfHandler_0 : decode cX10_placeOfHandler 0 = .ok (.iconst 0, 1) := by decide +kernel
theorem dX10_placeOfHandler_1 : decode cX10_placeOfHandler 1 = .ok (.istore_n 2, 1) := by decide +kernel
theorem dX10_placeOfHandler_2 : decode cX10_placeOfHandler 2 = .ok (.aload_n 0, 1) := by decide +kernel
theorem dX10_placeOfHandler_3 : decode cX10_placeOfHandler 3 = .ok (.getfield 17, 3) := by decide +kernel
theorem dX10_placeOfHandler_6 : decode cX10_placeOfHandler 6 = .ok (.iconst 1, 1) := by decide +kernel
theorem dX10_placeOfHandler_7 : decode cX10_placeOfHandler 7 = .ok (.isub, 1) := by decide +kernel
theorem dX10_placeOfHandler_8 : decode cX10_placeOfHandler 8 = .ok (.istore_n 3, 1) := by decide +kernel
theorem dX10_placeOfHandler_9 : decode cX10_placeOfHandler 9 = .ok (.iload_n 3, 1) := by decide +kernel
theorem dX10_placeOfHandler_10 : decode cX10_placeOfHandler 10 = .ok (.ifCond .lt 76, 3) := by decide +kernel
theorem dX10_placeOfHandler_13 : decode cX10_placeOfHandler 13 = .ok (.aload_n 0, 1) := by decide +kernel
theorem dX10_placeOfHandler_14 : decode cX10_placeOfHandler 14 = .ok (.getfield 11, 3) := by decide +kernel
theorem dX10_placeOfHandler_17 : decode cX10_placeOfHandler 17 = .ok (.iload_n 3, 1) := by decide +kernel
theorem dX10_placeOfHandler_18 : decode cX10_placeOfHandler 18 = .ok (.aaload, 1) := by decide +kernel
theorem dX10_placeOfHandler_19 : decode cX10_placeOfHandler 19 = .ok (.astore 4, 2) := by decide +kernel
theorem dX10_placeOfHandler_21 : decode cX10_placeOfHandler 21 = .ok (.aload 4, 2) := by decide +kernel
theorem dX10_placeOfHandler_23 : decode cX10_placeOfHandler 23 = .ok (.getfield 30, 3) := by decide +kernel
theorem dX10_placeOfHandler_26 : decode cX10_placeOfHandler 26 = .ok (.bipush 8, 2) := by decide +kernel
theorem dX10_placeOfHandler_28 : decode cX10_placeOfHandler 28 = .ok (.if_icmp .ne 21, 3) := by decide +kernel
theorem dX10_placeOfHandler_31 : decode cX10_placeOfHandler 31 = .ok (.aload 4, 2) := by decide +kernel
theorem dX10_placeOfHandler_33 : decode cX10_placeOfHandler 33 = .ok (.getfield 33, 3) := by decide +kernel
theorem dX10_placeOfHandler_36 : decode cX10_placeOfHandler 36 = .ok (.getfield 37, 3) := by decide +kernel
theorem dX10_placeOfHandler_39 : decode cX10_placeOfHandler 39 = .ok (.iload_n 1, 1) := by decide +kernel
theorem dX10_placeOfHandler_40 : decode cX10_placeOfHandler 40 = .ok (.if_icmp .ne 9, 3) := by decide +kernel
theorem dX10_placeOfHandler_43 : decode cX10_placeOfHandler 43 = .ok (.iinc 2 1, 3) := by decide +kernel
theorem dX10_placeOfHandler_46 : decode cX10_placeOfHandler 46 = .ok (.goto 34, 3) := by decide +kernel
theorem dX10_placeOfHandler_49 : decode cX10_placeOfHandler 49 = .ok (.aload 4, 2) := by decide +kernel
theorem dX10_placeOfHandler_51 : decode cX10_placeOfHandler 51 = .ok (.getfield 30, 3) := by decide +kernel
theorem dX10_placeOfHandler_54 : decode cX10_placeOfHandler 54 = .ok (.bipush 12, 2) := by decide +kernel
theorem dX10_placeOfHandler_56 : decode cX10_placeOfHandler 56 = .ok (.if_icmp .ne 24, 3) := by decide +kernel
theorem dX10_placeOfHandler_59 : decode cX10_placeOfHandler 59 = .ok (.aload 4, 2) := by decide +kernel
theorem dX10_placeOfHandler_61 : decode cX10_placeOfHandler 61 = .ok (.getfield 33, 3) := by decide +kernel
theorem dX10_placeOfHandler_64 : decode cX10_placeOfHandler 64 = .ok (.iload_n 1, 1) := by decide +kernel
theorem dX10_placeOfHandler_65 : decode cX10_placeOfHandler 65 = .ok (.invokevirtual 42, 3) := by decide +kernel
theorem dX10_placeOfHandler_68 : decode cX10_placeOfHandler 68 = .ok (.ifnull 12, 3) := by decide +kernel
theorem dX10_placeOfHandler_71 : decode cX10_placeOfHandler 71 = .ok (.iload_n 2, 1) := by decide +kernel
theorem dX10_placeOfHandler_72 : decode cX10_placeOfHandler 72 = .ok (.ifCond .ne 5, 3) := by decide +kernel
theorem dX10_placeOfHandler_75 : decode cX10_placeOfHandler 75 = .ok (.iload_n 3, 1) := by decide +kernel
theorem dX10_placeOfHandler_76 : decode cX10_placeOfHandler 76 = .ok (.ireturn, 1) := by decide +kernel
theorem dX10_placeOfHandler_77 : decode cX10_placeOfHandler 77 = .ok (.iinc 2 (-1), 3) := by decide +kernel
theorem dX10_placeOfHandler_80 : decode cX10_placeOfHandler 80 = .ok (.iinc 3 (-1), 3) := by decide +kernel
theorem dX10_placeOfHandler_83 : decode cX10_placeOfHandler 83 = .ok (.goto (-74), 3) := by decide +kernel
theorem dX10_placeOfHandler_86 : decode cX10_placeOfHandler 86 = .ok (.iconst (-1), 1) := by decide +kernel
theorem dX10_placeOfHandler_87 : decode cX10_placeOfHandler 87 = .ok (.ireturn, 1) := by decide +kernel
theorem dX11_init_0 : decode cX11_init 0 = .ok (.aload_n 0, 1) := by decide +kernel
theorem dX11_init_1 : decode cX11_init 1 = .ok (.invokespecial 3, 3) := by decide +kernel
theorem dX11_init_4 : decode cX11_init 4 = .ok (.aload_n 0, 1) := by decide +kernel
theorem dX11_init_5 : decode cX11_init 5 = .ok (.bipush 120, 2) := by decide +kernel
theorem dX11_init_7 : decode cX11_init 7 = .ok (.newarray .int, 2) := by decide +kernel
theorem dX11_init_9 : decode cX11_init 9 = .ok (.putfield 9, 3) := by decide +kernel
theorem dX11_init_12 : decode cX11_init 12 = .ok (.aload_n 0, 1) := by decide +kernel
theorem dX11_init_13 : decode cX11_init 13 = .ok (.iconst 0, 1) := by decide +kernel
theorem dX11_init_14 : decode cX11_init 14 = .ok (.putfield 13, 3) := by decide +kernel
theorem dX11_init_17 : decode cX11_init 17 = .ok (.aload_n 0, 1) := by decide +kernel
theorem dX11_init_18 : decode cX11_init 18 = .ok (.new 17, 3) := by decide +kernel
theorem dX11_init_21 : decode cX11_init 21 = .ok (.dup, 1) := by decide +kernel
theorem dX11_init_22 : decode cX11_init 22 = .ok (.invokespecial 19, 3) := by decide +kernel
theorem dX11_init_25 : decode cX11_init 25 = .ok (.putfield 20, 3) := by decide +kernel
theorem dX11_init_28 : decode cX11_init 28 = .ok (.aload_n 0, 1) := by decide +kernel
theorem dX11_init_29 : decode cX11_init 29 = .ok (.new 24, 3) := by decide +kernel
theorem dX11_init_32 : decode cX11_init 32 = .ok (.dup, 1) := by decide +kernel
theorem dX11_init_33 : decode cX11_init 33 = .ok (.invokespecial 26, 3) := by decide +kernel
theorem dX11_init_36 : decode cX11_init 36 = .ok (.putfield 27, 3) := by decide +kernel
theorem dX11_init_39 : decode cX11_init 39 = .ok (.aload_n 0, 1) := by decide +kernel
theorem dX11_init_40 : decode cX11_init 40 = .ok (.new 31, 3) := by decide +kernel
theorem dX11_init_43 : decode cX11_init 43 = .ok (.dup, 1) := by decide +kernel
theorem dX11_init_44 : decode cX11_init 44 = .ok (.invokespecial 33, 3) := by decide +kernel
theorem dX11_init_47 : decode cX11_init 47 = .ok (.putfield 34, 3) := by decide +kernel
theorem dX11_init_50 : decode cX11_init 50 = .ok (.aload_n 0, 1) := by decide +kernel
theorem dX11_init_51 : decode cX11_init 51 = .ok (.iconst 2, 1) := by decide +kernel
theorem dX11_init_52 : decode cX11_init 52 = .ok (.anewarray 31, 3) := by decide +kernel
theorem dX11_init_55 : decode cX11_init 55 = .ok (.putfield 38, 3) := by decide +kernel
theorem dX11_init_58 : decode cX11_init 58 = .ok (.return_, 1) := by decide +kernel
theorem dX11_write_0 : decode cX11_write 0 = .ok (.iload_n 1, 1) := by decide +kernel
theorem dX11_write_1 : decode cX11_write 1 = .ok (.bipush 32, 2) := by decide +kernel
theorem dX11_write_3 : decode cX11_write 3 = .ok (.if_icmp .lt 9, 3) := by decide +kernel
theorem dX11_write_6 : decode cX11_write 6 = .ok (.iload_n 1, 1) := by decide +kernel
theorem dX11_write_7 : decode cX11_write 7 = .ok (.bipush 126, 2) := by decide +kernel
theorem dX11_write_9 : decode cX11_write 9 = .ok (.if_icmp .le 5, 3) := by decide +kernel
theorem dX11_write_12 : decode cX11_write 12 = .ok (.iconst (-1), 1) := by decide +kernel
theorem dX11_write_13 : decode cX11_write 13 = .ok (.ireturn, 1) := by decide +kernel
theorem dX11_write_14 : decode cX11_write 14 = .ok (.aload_n 0, 1) := by decide +kernel
theorem dX11_write_15 : decode cX11_write 15 = .ok (.getfield 13, 3) := by decide +kernel
theorem dX11_write_18 : decode cX11_write 18 = .ok (.bipush 120, 2) := by decide +kernel
theorem dX11_write_20 : decode cX11_write 20 = .ok (.if_icmp .lt 6, 3) := by decide +kernel
theorem dX11_write_23 : decode cX11_write 23 = .ok (.bipush (-3), 2) := by decide +kernel
theorem dX11_write_25 : decode cX11_write 25 = .ok (.ireturn, 1) := by decide +kernel
theorem dX11_write_26 : decode cX11_write 26 = .ok (.aload_n 0, 1) := by decide +kernel
theorem dX11_write_27 : decode cX11_write 27 = .ok (.getfield 9, 3) := by decide +kernel
theorem dX11_write_30 : decode cX11_write 30 = .ok (.aload_n 0, 1) := by decide +kernel
theorem dX11_write_31 : decode cX11_write 31 = .ok (.getfield 13, 3) := by decide +kernel
theorem dX11_write_34 : decode cX11_write 34 = .ok (.iload_n 1, 1) := by decide +kernel
theorem dX11_write_35 : decode cX11_write 35 = .ok (.iastore, 1) := by decide +kernel
theorem dX11_write_36 : decode cX11_write 36 = .ok (.aload_n 0, 1) := by decide +kernel
theorem dX11_write_37 : decode cX11_write 37 = .ok (.dup, 1) := by decide +kernel
theorem dX11_write_38 : decode cX11_write 38 = .ok (.getfield 13, 3) := by decide +kernel
theorem dX11_write_41 : decode cX11_write 41 = .ok (.iconst 1, 1) := by decide +kernel
theorem dX11_write_42 : decode cX11_write 42 = .ok (.iadd, 1) := by decide +kernel
theorem dX11_write_43 : decode cX11_write 43 = .ok (.putfield 13, 3) := by decide +kernel
theorem dX11_write_46 : decode cX11_write 46 = .ok (.aload_n 0, 1) := by decide +kernel
theorem dX11_write_47 : decode cX11_write 47 = .ok (.getfield 13, 3) := by decide +kernel
theorem dX11_write_50 : decode cX11_write 50 = .ok (.ireturn, 1) := by decide +kernel
theorem dX11_wipe_0 : decode cX11_wipe 0 = .ok (.aload_n 0, 1) := by decide +kernel
theorem dX11_wipe_1 : decode cX11_wipe 1 = .ok (.getfield 13, 3) := by decide +kernel
theorem dX11_wipe_4 : decode cX11_wipe 4 = .ok (.istore_n 1, 1) := by decide +kernel
theorem dX11_wipe_5 : decode cX11_wipe 5 = .ok (.aload_n 0, 1) := by decide +kernel
theorem dX11_wipe_6 : decode cX11_wipe 6 = .ok (.iconst 0, 1) := by decide +kernel
theorem dX11_wipe_7 : decode cX11_wipe 7 = .ok (.putfield 13, 3) := by decide +kernel
theorem dX11_wipe_10 : decode cX11_wipe 10 = .ok (.iload_n 1, 1) := by decide +kernel
theorem dX11_wipe_11 : decode cX11_wipe 11 = .ok (.ireturn, 1) := by decide +kernel
theorem dX11_fault_0 : decode cX11_fault 0 = .ok (.iload_n 1, 1) := by decide +kernel
theorem dX11_fault_1 : decode cX11_fault 1 = .ok (.ifCond .eq 10, 3) := by decide +kernel
theorem dX11_fault_4 : decode cX11_fault 4 = .ok (.iload_n 1, 1) := by decide +kernel
theorem dX11_fault_5 : decode cX11_fault 5 = .ok (.iconst 1, 1) := by decide +kernel
theorem dX11_fault_6 : decode cX11_fault 6 = .ok (.if_icmp .eq 5, 3) := by decide +kernel
theorem dX11_fault_9 : decode cX11_fault 9 = .ok (.iconst (-1), 1) := by decide +kernel
theorem dX11_fault_10 : decode cX11_fault 10 = .ok (.ireturn, 1) := by decide +kernel
theorem dX11_fault_11 : decode cX11_fault 11 = .ok (.aload_n 0, 1) := by decide +kernel
theorem dX11_fault_12 : decode cX11_fault 12 = .ok (.getfield 20, 3) := by decide +kernel
theorem dX11_fault_15 : decode cX11_fault 15 = .ok (.aload_n 0, 1) := by decide +kernel
theorem dX11_fault_16 : decode cX11_fault 16 = .ok (.getfield 9, 3) := by decide +kernel
theorem dX11_fault_19 : decode cX11_fault 19 = .ok (.aload_n 0, 1) := by decide +kernel
theorem dX11_fault_20 : decode cX11_fault 20 = .ok (.getfield 13, 3) := by decide +kernel
theorem dX11_fault_23 : decode cX11_fault 23 = .ok (.iload_n 1, 1) := by decide +kernel
theorem dX11_fault_24 : decode cX11_fault 24 = .ok (.iconst 1, 1) := by decide +kernel
theorem dX11_fault_25 : decode cX11_fault 25 = .ok (.if_icmp .ne 7, 3) := by decide +kernel
theorem dX11_fault_28 : decode cX11_fault 28 = .ok (.iconst 1, 1) := by decide +kernel
theorem dX11_fault_29 : decode cX11_fault 29 = .ok (.goto 4, 3) := by decide +kernel
theorem dX11_fault_32 : decode cX11_fault 32 = .ok (.iconst 0, 1) := by decide +kernel
theorem dX11_fault_33 : decode cX11_fault 33 = .ok (.invokevirtual 42, 3) := by decide +kernel
theorem dX11_fault_36 : decode cX11_fault 36 = .ok (.ireturn, 1) := by decide +kernel
theorem dX11_load_0 : decode cX11_load 0 = .ok (.aload_n 0, 1) := by decide +kernel
theorem dX11_load_1 : decode cX11_load 1 = .ok (.getfield 20, 3) := by decide +kernel
theorem dX11_load_4 : decode cX11_load 4 = .ok (.aload_n 0, 1) := by decide +kernel
theorem dX11_load_5 : decode cX11_load 5 = .ok (.getfield 9, 3) := by decide +kernel
theorem dX11_load_8 : decode cX11_load 8 = .ok (.aload_n 0, 1) := by decide +kernel
theorem dX11_load_9 : decode cX11_load 9 = .ok (.getfield 13, 3) := by decide +kernel
theorem dX11_load_12 : decode cX11_load 12 = .ok (.iconst 0, 1) := by decide +kernel
theorem dX11_load_13 : decode cX11_load 13 = .ok (.invokevirtual 42, 3) := by decide +kernel
theorem dX11_load_16 : decode cX11_load 16 = .ok (.bipush (-9), 2) := by decide +kernel
theorem dX11_load_18 : decode cX11_load 18 = .ok (.if_icmp .eq 6, 3) := by decide +kernel
theorem dX11_load_21 : decode cX11_load 21 = .ok (.bipush (-2), 2) := by decide +kernel
theorem dX11_load_23 : decode cX11_load 23 = .ok (.ireturn, 1) := by decide +kernel
theorem dX11_load_24 : decode cX11_load 24 = .ok (.aload_n 0, 1) := by decide +kernel
theorem dX11_load_25 : decode cX11_load 25 = .ok (.getfield 20, 3) := by decide +kernel
theorem dX11_load_28 : decode cX11_load 28 = .ok (.invokevirtual 46, 3) := by decide +kernel
theorem dX11_load_31 : decode cX11_load 31 = .ok (.astore_n 1, 1) := by decide +kernel
theorem dX11_load_32 : decode cX11_load 32 = .ok (.aload_n 1, 1) := by decide +kernel
theorem dX11_load_33 : decode cX11_load 33 = .ok (.aload_n 0, 1) := by decide +kernel
theorem dX11_load_34 : decode cX11_load 34 = .ok (.getfield 27, 3) := by decide +kernel
theorem dX11_load_37 : decode cX11_load 37 = .ok (.aload_n 1, 1) := by decide +kernel
theorem dX11_load_38 : decode cX11_load 38 = .ok (.getfield 50, 3) := by decide +kernel
theorem dX11_load_41 : decode cX11_load 41 = .ok (.invokevirtual 56, 3) := by decide +kernel
theorem dX11_load_44 : decode cX11_load 44 = .ok (.putfield 60, 3) := by decide +kernel
theorem dX11_load_47 : decode cX11_load 47 = .ok (.aload_n 0, 1) := by decide +kernel
theorem dX11_load_48 : decode cX11_load 48 = .ok (.getfield 34, 3) := by decide +kernel
theorem dX11_load_51 : decode cX11_load 51 = .ok (.aload_n 1, 1) := by decide +kernel
theorem dX11_load_52 : decode cX11_load 52 = .ok (.putfield 63, 3) := by decide +kernel
theorem dX11_load_55 : decode cX11_load 55 = .ok (.aload_n 0, 1) := by decide +kernel
theorem dX11_load_56 : decode cX11_load 56 = .ok (.getfield 34, 3) := by decide +kernel
theorem dX11_load_59 : decode cX11_load 59 = .ok (.invokevirtual 67, 3) := by decide +kernel
theorem dX11_load_62 : decode cX11_load 62 = .ok (.aload_n 1, 1) := by decide +kernel
theorem dX11_load_63 : decode cX11_load 63 = .ok (.getfield 70, 3) := by decide +kernel
theorem dX11_load_66 : decode cX11_load 66 = .ok (.arraylength, 1) := by decide +kernel
theorem dX11_load_67 : decode cX11_load 67 = .ok (.ireturn, 1) := by decide +kernel
theorem dX11_define_0 : decode cX11_define 0 = .ok (.iload_n 1, 1) := by decide +kernel
theorem dX11_define_1 : decode cX11_define 1 = .ok (.invokestatic 74, 3) := by decide +kernel
theorem dX11_define_4 : decode cX11_define 4 = .ok (.ifCond .ne 5, 3) := by decide +kernel
theorem dX11_define_7 : decode cX11_define 7 = .ok (.iconst (-1), 1) := by decide +kernel
theorem dX11_define_8 : decode cX11_define 8 = .ok (.ireturn, 1) := by decide +kernel
theorem dX11_define_9 : decode cX11_define 9 = .ok (.aload_n 0, 1) := by decide +kernel
theorem dX11_define_10 : decode cX11_define 10 = .ok (.getfield 20, 3) := by decide +kernel
theorem dX11_define_13 : decode cX11_define 13 = .ok (.aload_n 0, 1) := by decide +kernel
theorem dX11_define_14 : decode cX11_define 14 = .ok (.getfield 9, 3) := by decide +kernel
theorem dX11_define_17 : decode cX11_define 17 = .ok (.aload_n 0, 1) := by decide +kernel
theorem dX11_define_18 : decode cX11_define 18 = .ok (.getfield 13, 3) := by decide +kernel
theorem dX11_define_21 : decode cX11_define 21 = .ok (.iconst 1, 1) := by decide +kernel
theorem dX11_define_22 : decode cX11_define 22 = .ok (.invokevirtual 42, 3) := by decide +kernel
theorem dX11_define_25 : decode cX11_define 25 = .ok (.bipush (-9), 2) := by decide +kernel
theorem dX11_define_27 : decode cX11_define 27 = .ok (.if_icmp .eq 6, 3) := by decide +kernel
theorem dX11_define_30 : decode cX11_define 30 = .ok (.bipush (-2), 2) := by decide +kernel
theorem dX11_define_32 : decode cX11_define 32 = .ok (.ireturn, 1) := by decide +kernel
theorem dX11_define_33 : decode cX11_define 33 = .ok (.aload_n 0, 1) := by decide +kernel
theorem dX11_define_34 : decode cX11_define 34 = .ok (.getfield 34, 3) := by decide +kernel
theorem dX11_define_37 : decode cX11_define 37 = .ok (.getfield 78, 3) := by decide +kernel
theorem dX11_define_40 : decode cX11_define 40 = .ok (.iload_n 1, 1) := by decide +kernel
theorem dX11_define_41 : decode cX11_define 41 = .ok (.aload_n 0, 1) := by decide +kernel
theorem dX11_define_42 : decode cX11_define 42 = .ok (.getfield 20, 3) := by decide +kernel
theorem dX11_define_45 : decode cX11_define 45 = .ok (.invokevirtual 46, 3) := by decide +kernel
theorem dX11_define_48 : decode cX11_define 48 = .ok (.aastore, 1) := by decide +kernel
theorem dX11_define_49 : decode cX11_define 49 = .ok (.aload_n 0, 1) := by decide +kernel
theorem dX11_define_50 : decode cX11_define 50 = .ok (.getfield 34, 3) := by decide +kernel
theorem dX11_define_53 : decode cX11_define 53 = .ok (.getfield 78, 3) := by decide +kernel
theorem dX11_define_56 : decode cX11_define 56 = .ok (.iload_n 1, 1) := by decide +kernel
theorem dX11_define_57 : decode cX11_define 57 = .ok (.aaload, 1) := by decide +kernel
theorem dX11_define_58 : decode cX11_define 58 = .ok (.getfield 70, 3) := by decide +kernel
theorem dX11_define_61 : decode cX11_define 61 = .ok (.arraylength, 1) := by decide +kernel
theorem dX11_define_62 : decode cX11_define 62 = .ok (.ireturn, 1) := by decide +kernel
theorem dX11_undefine_0 : decode cX11_undefine 0 = .ok (.iload_n 1, 1) := by decide +kernel
theorem dX11_undefine_1 : decode cX11_undefine 1 = .ok (.invokestatic 74, 3) := by decide +kernel
theorem dX11_undefine_4 : decode cX11_undefine 4 = .ok (.ifCond .ne 5, 3) := by decide +kernel
theorem dX11_undefine_7 : decode cX11_undefine 7 = .ok (.iconst (-1), 1) := by decide +kernel
theorem dX11_undefine_8 : decode cX11_undefine 8 = .ok (.ireturn, 1) := by decide +kernel
theorem dX11_undefine_9 : decode cX11_undefine 9 = .ok (.aload_n 0, 1) := by decide +kernel
theorem dX11_undefine_10 : decode cX11_undefine 10 = .ok (.getfield 34, 3) := by decide +kernel
theorem dX11_undefine_13 : decode cX11_undefine 13 = .ok (.getfield 78, 3) := by decide +kernel
theorem dX11_undefine_16 : decode cX11_undefine 16 = .ok (.iload_n 1, 1) := by decide +kernel
theorem dX11_undefine_17 : decode cX11_undefine 17 = .ok (.aaload, 1) := by decide +kernel
theorem dX11_undefine_18 : decode cX11_undefine 18 = .ok (.ifnonnull 7, 3) := by decide +kernel
theorem dX11_undefine_21 : decode cX11_undefine 21 = .ok (.iconst 0, 1) := by decide +kernel
theorem dX11_undefine_22 : decode cX11_undefine 22 = .ok (.goto 4, 3) := by decide +kernel
theorem dX11_undefine_25 : decode cX11_undefine 25 = .ok (.iconst 1, 1) := by decide +kernel
theorem dX11_undefine_26 : decode cX11_undefine 26 = .ok (.istore_n 2, 1) := by decide +kernel
theorem dX11_undefine_27 : decode cX11_undefine 27 = .ok (.aload_n 0, 1) := by decide +kernel
theorem dX11_undefine_28 : decode cX11_undefine 28 = .ok (.getfield 34, 3) := by decide +kernel
theorem dX11_undefine_31 : decode cX11_undefine 31 = .ok (.getfield 78, 3) := by decide +kernel
theorem dX11_undefine_34 : decode cX11_undefine 34 = .ok (.iload_n 1, 1) := by decide +kernel
theorem dX11_undefine_35 : decode cX11_undefine 35 = .ok (.aconst_null, 1) := by decide +kernel
theorem dX11_undefine_36 : decode cX11_undefine 36 = .ok (.aastore, 1) := by decide +kernel
theorem dX11_undefine_37 : decode cX11_undefine 37 = .ok (.iload_n 2, 1) := by decide +kernel
theorem dX11_undefine_38 : decode cX11_undefine 38 = .ok (.ireturn, 1) := by decide +kernel
theorem dX11_restart_0 : decode cX11_restart 0 = .ok (.aload_n 0, 1) := by decide +kernel
theorem dX11_restart_1 : decode cX11_restart 1 = .ok (.getfield 34, 3) := by decide +kernel
theorem dX11_restart_4 : decode cX11_restart 4 = .ok (.getfield 82, 3) := by decide +kernel
theorem dX11_restart_7 : decode cX11_restart 7 = .ok (.ifCond .ne 6, 3) := by decide +kernel
theorem dX11_restart_10 : decode cX11_restart 10 = .ok (.bipush (-2), 2) := by decide +kernel
theorem dX11_restart_12 : decode cX11_restart 12 = .ok (.ireturn, 1) := by decide +kernel
theorem dX11_restart_13 : decode cX11_restart 13 = .ok (.aload_n 0, 1) := by decide +kernel
theorem dX11_restart_14 : decode cX11_restart 14 = .ok (.getfield 34, 3) := by decide +kernel
theorem dX11_restart_17 : decode cX11_restart 17 = .ok (.getfield 82, 3) := by decide +kernel
theorem dX11_restart_20 : decode cX11_restart 20 = .ok (.istore_n 1, 1) := by decide +kernel
theorem dX11_restart_21 : decode cX11_restart 21 = .ok (.aload_n 0, 1) := by decide +kernel
theorem dX11_restart_22 : decode cX11_restart 22 = .ok (.getfield 34, 3) := by decide +kernel
theorem dX11_restart_25 : decode cX11_restart 25 = .ok (.invokevirtual 67, 3) := by decide +kernel
theorem dX11_restart_28 : decode cX11_restart 28 = .ok (.iload_n 1, 1) := by decide +kernel
theorem dX11_restart_29 : decode cX11_restart 29 = .ok (.ireturn, 1) := by decide +kernel
theorem dX11_listing_0 : decode cX11_listing 0 = .ok (.iload_n 1, 1) := by decide +kernel
theorem dX11_listing_1 : decode cX11_listing 1 = .ok (.ifCond .ge 5, 3) := by decide +kernel
theorem dX11_listing_4 : decode cX11_listing 4 = .ok (.iconst (-1), 1) := by decide +kernel
theorem dX11_listing_5 : decode cX11_listing 5 = .ok (.ireturn, 1) := by decide +kernel
theorem dX11_listing_6 : decode cX11_listing 6 = .ok (.aload_n 0, 1) := by decide +kernel
theorem dX11_listing_7 : decode cX11_listing 7 = .ok (.getfield 34, 3) := by decide +kernel
theorem dX11_listing_10 : decode cX11_listing 10 = .ok (.getfield 63, 3) := by decide +kernel
theorem dX11_listing_13 : decode cX11_listing 13 = .ok (.ifnonnull 6, 3) := by decide +kernel
theorem dX11_listing_16 : decode cX11_listing 16 = .ok (.bipush (-2), 2) := by decide +kernel
theorem dX11_listing_18 : decode cX11_listing 18 = .ok (.ireturn, 1) := by decide +kernel
theorem dX11_listing_19 : decode cX11_listing 19 = .ok (.iload_n 1, 1) := by decide +kernel
theorem dX11_listing_20 : decode cX11_listing 20 = .ok (.aload_n 0, 1) := by decide +kernel
theorem dX11_listing_21 : decode cX11_listing 21 = .ok (.getfield 34, 3) := by decide +kernel
theorem dX11_listing_24 : decode cX11_listing 24 = .ok (.getfield 63, 3) := by decide +kernel
theorem dX11_listing_27 : decode cX11_listing 27 = .ok (.getfield 60, 3) := by decide +kernel
theorem dX11_listing_30 : decode cX11_listing 30 = .ok (.arraylength, 1) := by decide +kernel
theorem dX11_listing_31 : decode cX11_listing 31 = .ok (.if_icmp .ge 18, 3) := by decide +kernel
theorem dX11_listing_34 : decode cX11_listing 34 = .ok (.aload_n 0, 1) := by decide +kernel
theorem dX11_listing_35 : decode cX11_listing 35 = .ok (.getfield 34, 3) := by decide +kernel
theorem dX11_listing_38 : decode cX11_listing 38 = .ok (.getfield 63, 3) := by decide +kernel
theorem dX11_listing_41 : decode cX11_listing 41 = .ok (.getfield 60, 3) := by decide +kernel
theorem dX11_listing_44 : decode cX11_listing 44 = .ok (.iload_n 1, 1) := by decide +kernel
theorem dX11_listing_45 : decode cX11_listing 45 = .ok (.iaload, 1) := by decide +kernel
theorem dX11_listing_46 : decode cX11_listing 46 = .ok (.goto 5, 3) := by decide +kernel
theorem dX11_listing_49 : decode cX11_listing 49 = .ok (.bipush (-9), 2) := by decide +kernel
theorem dX11_listing_51 : decode cX11_listing 51 = .ok (.ireturn, 1) := by decide +kernel
theorem dX11_may_0 : decode cX11_may 0 = .ok (.iload_n 1, 1) := by decide +kernel
theorem dX11_may_1 : decode cX11_may 1 = .ok (.iconst (-1), 1) := by decide +kernel
theorem dX11_may_2 : decode cX11_may 2 = .ok (.if_icmp .eq 10, 3) := by decide +kernel
theorem dX11_may_5 : decode cX11_may 5 = .ok (.iload_n 1, 1) := by decide +kernel
theorem dX11_may_6 : decode cX11_may 6 = .ok (.invokestatic 74, 3) := by decide +kernel
theorem dX11_may_9 : decode cX11_may 9 = .ok (.ifCond .eq 19, 3) := by decide +kernel
theorem dX11_may_12 : decode cX11_may 12 = .ok (.iload_n 2, 1) := by decide +kernel
theorem dX11_may_13 : decode cX11_may 13 = .ok (.invokestatic 85, 3) := by decide +kernel
theorem dX11_may_16 : decode cX11_may 16 = .ok (.ifCond .eq 12, 3) := by decide +kernel
theorem dX11_may_19 : decode cX11_may 19 = .ok (.iload_n 3, 1) := by decide +kernel
theorem dX11_may_20 : decode cX11_may 20 = .ok (.ifCond .lt 8, 3) := by decide +kernel
theorem dX11_may_23 : decode cX11_may 23 = .ok (.iload_n 3, 1) := by decide +kernel
theorem dX11_may_24 : decode cX11_may 24 = .ok (.iconst 4, 1) := by decide +kernel
theorem dX11_may_25 : decode cX11_may 25 = .ok (.if_icmp .lt 5, 3) := by decide +kernel
theorem dX11_may_28 : decode cX11_may 28 = .ok (.iconst (-1), 1) := by decide +kernel
theorem dX11_may_29 : decode cX11_may 29 = .ok (.ireturn, 1) := by decide +kernel
theorem dX11_may_30 : decode cX11_may 30 = .ok (.iload_n 1, 1) := by decide +kernel
theorem dX11_may_31 : decode cX11_may 31 = .ok (.iconst (-1), 1) := by decide +kernel
theorem dX11_may_32 : decode cX11_may 32 = .ok (.if_icmp .ne 13, 3) := by decide +kernel
theorem dX11_may_35 : decode cX11_may 35 = .ok (.aload_n 0, 1) := by decide +kernel
theorem dX11_may_36 : decode cX11_may 36 = .ok (.getfield 34, 3) := by decide +kernel
theorem dX11_may_39 : decode cX11_may 39 = .ok (.getfield 63, 3) := by decide +kernel
theorem dX11_may_42 : decode cX11_may 42 = .ok (.goto 12, 3) := by decide +kernel
theorem dX11_may_45 : decode cX11_may 45 = .ok (.aload_n 0, 1) := by decide +kernel
theorem dX11_may_46 : decode cX11_may 46 = .ok (.getfield 34, 3) := by decide +kernel
theorem dX11_may_49 : decode cX11_may 49 = .ok (.getfield 78, 3) := by decide +kernel
theorem dX11_may_52 : decode cX11_may 52 = .ok (.iload_n 1, 1) := by decide +kernel
theorem dX11_may_53 : decode cX11_may 53 = .ok (.aaload, 1) := by decide +kernel
theorem dX11_may_54 : decode cX11_may 54 = .ok (.astore 4, 2) := by decide +kernel
theorem dX11_may_56 : decode cX11_may 56 = .ok (.aload 4, 2) := by decide +kernel
theorem dX11_may_58 : decode cX11_may 58 = .ok (.ifnonnull 6, 3) := by decide +kernel
theorem dX11_may_61 : decode cX11_may 61 = .ok (.bipush (-2), 2) := by decide +kernel
theorem dX11_may_63 : decode cX11_may 63 = .ok (.ireturn, 1) := by decide +kernel
theorem dX11_may_64 : decode cX11_may 64 = .ok (.aload_n 0, 1) := by decide +kernel
theorem dX11_may_65 : decode cX11_may 65 = .ok (.getfield 34, 3) := by decide +kernel
theorem dX11_may_68 : decode cX11_may 68 = .ok (.invokevirtual 88, 3) := by decide +kernel
theorem dX11_may_71 : decode cX11_may 71 = .ok (.aload 4, 2) := by decide +kernel
theorem dX11_may_73 : decode cX11_may 73 = .ok (.getfield 50, 3) := by decide +kernel
theorem dX11_may_76 : decode cX11_may 76 = .ok (.getfield 91, 3) := by decide +kernel
theorem dX11_may_79 : decode cX11_may 79 = .ok (.iload_n 2, 1) := by decide +kernel
theorem dX11_may_80 : decode cX11_may 80 = .ok (.iload_n 3, 1) := by decide +kernel
theorem dX11_may_81 : decode cX11_may 81 = .ok (.invokestatic 96, 3) := by decide +kernel
theorem dX11_may_84 : decode cX11_may 84 = .ok (.iand, 1) := by decide +kernel
theorem dX11_may_85 : decode cX11_may 85 = .ok (.ifCond .eq 7, 3) := by decide +kernel
theorem dX11_may_88 : decode cX11_may 88 = .ok (.iconst 1, 1) := by decide +kernel
theorem dX11_may_89 : decode cX11_may 89 = .ok (.goto 4, 3) := by decide +kernel
theorem dX11_may_92 : decode cX11_may 92 = .ok (.iconst 0, 1) := by decide +kernel
theorem dX11_may_93 : decode cX11_may 93 = .ok (.ireturn, 1) := by decide +kernel
theorem dX11_run_0 : decode cX11_run 0 = .ok (.iload_n 1, 1) := by decide +kernel
theorem dX11_run_1 : decode cX11_run 1 = .ok (.iconst 1, 1) := by decide +kernel
theorem dX11_run_2 : decode cX11_run 2 = .ok (.if_icmp .lt 10, 3) := by decide +kernel
theorem dX11_run_5 : decode cX11_run 5 = .ok (.iload_n 1, 1) := by decide +kernel
theorem dX11_run_6 : decode cX11_run 6 = .ok (.sipush 200, 3) := by decide +kernel
theorem dX11_run_9 : decode cX11_run 9 = .ok (.if_icmp .le 5, 3) := by decide +kernel
theorem dX11_run_12 : decode cX11_run 12 = .ok (.iconst (-1), 1) := by decide +kernel
theorem dX11_run_13 : decode cX11_run 13 = .ok (.ireturn, 1) := by decide +kernel
theorem dX11_run_14 : decode cX11_run 14 = .ok (.aload_n 0, 1) := by decide +kernel
theorem dX11_run_15 : decode cX11_run 15 = .ok (.getfield 34, 3) := by decide +kernel
theorem dX11_run_18 : decode cX11_run 18 = .ok (.getfield 82, 3) := by decide +kernel
theorem dX11_run_21 : decode cX11_run 21 = .ok (.iconst 1, 1) := by decide +kernel
theorem dX11_run_22 : decode cX11_run 22 = .ok (.if_icmp .eq 6, 3) := by decide +kernel
theorem dX11_run_25 : decode cX11_run 25 = .ok (.bipush (-2), 2) := by decide +kernel
theorem dX11_run_27 : decode cX11_run 27 = .ok (.ireturn, 1) := by decide +kernel
theorem dX11_run_28 : decode cX11_run 28 = .ok (.iconst 0, 1) := by decide +kernel
theorem dX11_run_29 : decode cX11_run 29 = .ok (.istore_n 2, 1) := by decide +kernel
theorem dX11_run_30 : decode cX11_run 30 = .ok (.iload_n 2, 1) := by decide +kernel
theorem dX11_run_31 : decode cX11_run 31 = .ok (.iload_n 1, 1) := by decide +kernel
theorem dX11_run_32 : decode cX11_run 32 = .ok (.if_icmp .ge 27, 3) := by decide +kernel
theorem dX11_run_35 : decode cX11_run 35 = .ok (.aload_n 0, 1) := by decide +kernel
theorem dX11_run_36 : decode cX11_run 36 = .ok (.getfield 34, 3) := by decide +kernel
theorem dX11_run_39 : decode cX11_run 39 = .ok (.getfield 82, 3) := by decide +kernel
theorem dX11_run_42 : decode cX11_run 42 = .ok (.iconst 1, 1) := by decide +kernel
theorem dX11_run_43 : decode cX11_run 43 = .ok (.if_icmp .ne 16, 3) := by decide +kernel
theorem dX11_run_46 : decode cX11_run 46 = .ok (.aload_n 0, 1) := by decide +kernel
theorem dX11_run_47 : decode cX11_run 47 = .ok (.getfield 34, 3) := by decide +kernel
theorem dX11_run_50 : decode cX11_run 50 = .ok (.invokevirtual 100, 3) := by decide +kernel
theorem dX11_run_53 : decode cX11_run 53 = .ok (.iinc 2 1, 3) := by decide +kernel
theorem dX11_run_56 : decode cX11_run 56 = .ok (.goto (-26), 3) := by decide +kernel
theorem dX11_run_59 : decode cX11_run 59 = .ok (.aload_n 0, 1) := by decide +kernel
theorem dX11_run_60 : decode cX11_run 60 = .ok (.getfield 34, 3) := by decide +kernel
theorem dX11_run_63 : decode cX11_run 63 = .ok (.getfield 82, 3) := by decide +kernel
theorem dX11_run_66 : decode cX11_run 66 = .ok (.ireturn, 1) := by decide +kernel
theorem dX11_answer_0 : decode cX11_answer 0 = .ok (.aload_n 0, 1) := by decide +kernel
theorem dX11_answer_1 : decode cX11_answer 1 = .ok (.getfield 34, 3) := by decide +kernel
theorem dX11_answer_4 : decode cX11_answer 4 = .ok (.getfield 82, 3) := by decide +kernel
theorem dX11_answer_7 : decode cX11_answer 7 = .ok (.iconst 3, 1) := by decide +kernel
theorem dX11_answer_8 : decode cX11_answer 8 = .ok (.if_icmp .eq 6, 3) := by decide +kernel
theorem dX11_answer_11 : decode cX11_answer 11 = .ok (.bipush (-2), 2) := by decide +kernel
theorem dX11_answer_13 : decode cX11_answer 13 = .ok (.ireturn, 1) := by decide +kernel
theorem dX11_answer_14 : decode cX11_answer 14 = .ok (.aload_n 0, 1) := by decide +kernel
theorem dX11_answer_15 : decode cX11_answer 15 = .ok (.getfield 34, 3) := by decide +kernel
theorem dX11_answer_18 : decode cX11_answer 18 = .ok (.iload_n 1, 1) := by decide +kernel
theorem dX11_answer_19 : decode cX11_answer 19 = .ok (.invokevirtual 103, 3) := by decide +kernel
theorem dX11_answer_22 : decode cX11_answer 22 = .ok (.aload_n 0, 1) := by decide +kernel
theorem dX11_answer_23 : decode cX11_answer 23 = .ok (.getfield 34, 3) := by decide +kernel
theorem dX11_answer_26 : decode cX11_answer 26 = .ok (.getfield 107, 3) := by decide +kernel
theorem dX11_answer_29 : decode cX11_answer 29 = .ok (.getfield 111, 3) := by decide +kernel
theorem dX11_answer_32 : decode cX11_answer 32 = .ok (.ireturn, 1) := by decide +kernel
theorem dX11_drop_0 : decode cX11_drop 0 = .ok (.aload_n 0, 1) := by decide +kernel
theorem dX11_drop_1 : decode cX11_drop 1 = .ok (.getfield 34, 3) := by decide +kernel
theorem dX11_drop_4 : decode cX11_drop 4 = .ok (.getfield 82, 3) := by decide +kernel
theorem dX11_drop_7 : decode cX11_drop 7 = .ok (.iconst 3, 1) := by decide +kernel
theorem dX11_drop_8 : decode cX11_drop 8 = .ok (.if_icmp .eq 6, 3) := by decide +kernel
theorem dX11_drop_11 : decode cX11_drop 11 = .ok (.bipush (-2), 2) := by decide +kernel
theorem dX11_drop_13 : decode cX11_drop 13 = .ok (.ireturn, 1) := by decide +kernel
theorem dX11_drop_14 : decode cX11_drop 14 = .ok (.aload_n 0, 1) := by decide +kernel
theorem dX11_drop_15 : decode cX11_drop 15 = .ok (.getfield 34, 3) := by decide +kernel
theorem dX11_drop_18 : decode cX11_drop 18 = .ok (.getfield 107, 3) := by decide +kernel
theorem dX11_drop_21 : decode cX11_drop 21 = .ok (.getfield 111, 3) := by decide +kernel
theorem dX11_drop_24 : decode cX11_drop 24 = .ok (.istore_n 2, 1) := by decide +kernel
theorem dX11_drop_25 : decode cX11_drop 25 = .ok (.aload_n 0, 1) := by decide +kernel
theorem dX11_drop_26 : decode cX11_drop 26 = .ok (.getfield 34, 3) := by decide +kernel
theorem dX11_drop_29 : decode cX11_drop 29 = .ok (.iconst 0, 1) := by decide +kernel
theorem dX11_drop_30 : decode cX11_drop 30 = .ok (.invokevirtual 116, 3) := by decide +kernel
theorem dX11_drop_33 : decode cX11_drop 33 = .ok (.pop, 1) := by decide +kernel
theorem dX11_drop_34 : decode cX11_drop 34 = .ok (.aload_n 0, 1) := by decide +kernel
theorem dX11_drop_35 : decode cX11_drop 35 = .ok (.getfield 34, 3) := by decide +kernel
theorem dX11_drop_38 : decode cX11_drop 38 = .ok (.iload_n 1, 1) := by decide +kernel
theorem dX11_drop_39 : decode cX11_drop 39 = .ok (.invokevirtual 103, 3) := by decide +kernel
theorem dX11_drop_42 : decode cX11_drop 42 = .ok (.iload_n 2, 1) := by decide +kernel
theorem dX11_drop_43 : decode cX11_drop 43 = .ok (.ireturn, 1) := by decide +kernel
theorem dX11_told_0 : decode cX11_told 0 = .ok (.iload_n 1, 1) := by decide +kernel
theorem dX11_told_1 : decode cX11_told 1 = .ok (.tableswitch 202 0 12 #[67, 75, 83, 94, 105, 113, 121, 132, 143, 154, 165, 189, 194], 67) := by decide +kernel
theorem dX11_told_68 : decode cX11_told 68 = .ok (.aload_n 0, 1) := by decide +kernel
theorem dX11_told_69 : decode cX11_told 69 = .ok (.getfield 34, 3) := by decide +kernel
theorem dX11_told_72 : decode cX11_told 72 = .ok (.getfield 82, 3) := by decide +kernel
theorem dX11_told_75 : decode cX11_told 75 = .ok (.ireturn, 1) := by decide +kernel
theorem dX11_told_76 : decode cX11_told 76 = .ok (.aload_n 0, 1) := by decide +kernel
theorem dX11_told_77 : decode cX11_told 77 = .ok (.getfield 34, 3) := by decide +kernel
theorem dX11_told_80 : decode cX11_told 80 = .ok (.getfield 120, 3) := by decide +kernel
theorem dX11_told_83 : decode cX11_told 83 = .ok (.ireturn, 1) := by decide +kernel
theorem dX11_told_84 : decode cX11_told 84 = .ok (.aload_n 0, 1) := by decide +kernel
theorem dX11_told_85 : decode cX11_told 85 = .ok (.getfield 34, 3) := by decide +kernel
theorem dX11_told_88 : decode cX11_told 88 = .ok (.getfield 107, 3) := by decide +kernel
theorem dX11_told_91 : decode cX11_told 91 = .ok (.getfield 111, 3) := by decide +kernel
theorem dX11_told_94 : decode cX11_told 94 = .ok (.ireturn, 1) := by decide +kernel
theorem dX11_told_95 : decode cX11_told 95 = .ok (.aload_n 0, 1) := by decide +kernel
theorem dX11_told_96 : decode cX11_told 96 = .ok (.getfield 34, 3) := by decide +kernel
theorem dX11_told_99 : decode cX11_told 99 = .ok (.getfield 107, 3) := by decide +kernel
theorem dX11_told_102 : decode cX11_told 102 = .ok (.getfield 123, 3) := by decide +kernel
theorem dX11_told_105 : decode cX11_told 105 = .ok (.ireturn, 1) := by decide +kernel
theorem dX11_told_106 : decode cX11_told 106 = .ok (.aload_n 0, 1) := by decide +kernel
theorem dX11_told_107 : decode cX11_told 107 = .ok (.getfield 34, 3) := by decide +kernel
theorem dX11_told_110 : decode cX11_told 110 = .ok (.getfield 126, 3) := by decide +kernel
theorem dX11_told_113 : decode cX11_told 113 = .ok (.ireturn, 1) := by decide +kernel
theorem dX11_told_114 : decode cX11_told 114 = .ok (.aload_n 0, 1) := by decide +kernel
theorem dX11_told_115 : decode cX11_told 115 = .ok (.getfield 34, 3) := by decide +kernel
theorem dX11_told_118 : decode cX11_told 118 = .ok (.invokevirtual 129, 3) := by decide +kernel
theorem dX11_told_121 : decode cX11_told 121 = .ok (.ireturn, 1) := by decide +kernel
theorem dX11_told_122 : decode cX11_told 122 = .ok (.aload_n 0, 1) := by decide +kernel
theorem dX11_told_123 : decode cX11_told 123 = .ok (.getfield 34, 3) := by decide +kernel
theorem dX11_told_126 : decode cX11_told 126 = .ok (.getfield 133, 3) := by decide +kernel
theorem dX11_told_129 : decode cX11_told 129 = .ok (.getfield 137, 3) := by decide +kernel
theorem dX11_told_132 : decode cX11_told 132 = .ok (.ireturn, 1) := by decide +kernel
theorem dX11_told_133 : decode cX11_told 133 = .ok (.aload_n 0, 1) := by decide +kernel
theorem dX11_told_134 : decode cX11_told 134 = .ok (.getfield 34, 3) := by decide +kernel
theorem dX11_told_137 : decode cX11_told 137 = .ok (.getfield 133, 3) := by decide +kernel
theorem dX11_told_140 : decode cX11_told 140 = .ok (.getfield 142, 3) := by decide +kernel
theorem dX11_told_143 : decode cX11_told 143 = .ok (.ireturn, 1) := by decide +kernel
theorem dX11_told_144 : decode cX11_told 144 = .ok (.aload_n 0, 1) := by decide +kernel
theorem dX11_told_145 : decode cX11_told 145 = .ok (.getfield 34, 3) := by decide +kernel
theorem dX11_told_148 : decode cX11_told 148 = .ok (.getfield 133, 3) := by decide +kernel
theorem dX11_told_151 : decode cX11_told 151 = .ok (.getfield 145, 3) := by decide +kernel
theorem dX11_told_154 : decode cX11_told 154 = .ok (.ireturn, 1) := by decide +kernel
theorem dX11_told_155 : decode cX11_told 155 = .ok (.aload_n 0, 1) := by decide +kernel
theorem dX11_told_156 : decode cX11_told 156 = .ok (.getfield 34, 3) := by decide +kernel
theorem dX11_told_159 : decode cX11_told 159 = .ok (.getfield 133, 3) := by decide +kernel
theorem dX11_told_162 : decode cX11_told 162 = .ok (.getfield 148, 3) := by decide +kernel
theorem dX11_told_165 : decode cX11_told 165 = .ok (.ireturn, 1) := by decide +kernel
theorem dX11_told_166 : decode cX11_told 166 = .ok (.aload_n 0, 1) := by decide +kernel
theorem dX11_told_167 : decode cX11_told 167 = .ok (.getfield 34, 3) := by decide +kernel
theorem dX11_told_170 : decode cX11_told 170 = .ok (.getfield 82, 3) := by decide +kernel
theorem dX11_told_173 : decode cX11_told 173 = .ok (.iconst 3, 1) := by decide +kernel
theorem dX11_told_174 : decode cX11_told 174 = .ok (.if_icmp .ne 13, 3) := by decide +kernel
theorem dX11_told_177 : decode cX11_told 177 = .ok (.aload_n 0, 1) := by decide +kernel
theorem dX11_told_178 : decode cX11_told 178 = .ok (.getfield 34, 3) := by decide +kernel
theorem dX11_told_181 : decode cX11_told 181 = .ok (.getfield 151, 3) := by decide +kernel
theorem dX11_told_184 : decode cX11_told 184 = .ok (.goto 5, 3) := by decide +kernel
theorem dX11_told_187 : decode cX11_told 187 = .ok (.bipush (-9), 2) := by decide +kernel
theorem dX11_told_189 : decode cX11_told 189 = .ok (.ireturn, 1) := by decide +kernel
theorem dX11_told_190 : decode cX11_told 190 = .ok (.aload_n 0, 1) := by decide +kernel
theorem dX11_told_191 : decode cX11_told 191 = .ok (.getfield 13, 3) := by decide +kernel
theorem dX11_told_194 : decode cX11_told 194 = .ok (.ireturn, 1) := by decide +kernel
theorem dX11_told_195 : decode cX11_told 195 = .ok (.aload_n 0, 1) := by decide +kernel
theorem dX11_told_196 : decode cX11_told 196 = .ok (.getfield 34, 3) := by decide +kernel
theorem dX11_told_199 : decode cX11_told 199 = .ok (.invokevirtual 154, 3) := by decide +kernel
theorem dX11_told_202 : decode cX11_told 202 = .ok (.ireturn, 1) := by decide +kernel
theorem dX11_told_203 : decode cX11_told 203 = .ok (.iconst (-1), 1) := by decide +kernel
theorem dX11_told_204 : decode cX11_told 204 = .ok (.ireturn, 1) := by decide +kernel
theorem dX11_value_0 : decode cX11_value 0 = .ok (.aload_n 0, 1) := by decide +kernel
theorem dX11_value_1 : decode cX11_value 1 = .ok (.getfield 34, 3) := by decide +kernel
theorem dX11_value_4 : decode cX11_value 4 = .ok (.getfield 82, 3) := by decide +kernel
theorem dX11_value_7 : decode cX11_value 7 = .ok (.iconst 2, 1) := by decide +kernel
theorem dX11_value_8 : decode cX11_value 8 = .ok (.if_icmp .eq 35, 3) := by decide +kernel
theorem dX11_value_11 : decode cX11_value 11 = .ok (.aload_n 0, 1) := by decide +kernel
theorem dX11_value_12 : decode cX11_value 12 = .ok (.getfield 34, 3) := by decide +kernel
theorem dX11_value_15 : decode cX11_value 15 = .ok (.getfield 82, 3) := by decide +kernel
theorem dX11_value_18 : decode cX11_value 18 = .ok (.iconst 3, 1) := by decide +kernel
theorem dX11_value_19 : decode cX11_value 19 = .ok (.if_icmp .eq 24, 3) := by decide +kernel
theorem dX11_value_22 : decode cX11_value 22 = .ok (.aload_n 0, 1) := by decide +kernel
theorem dX11_value_23 : decode cX11_value 23 = .ok (.getfield 34, 3) := by decide +kernel
theorem dX11_value_26 : decode cX11_value 26 = .ok (.getfield 82, 3) := by decide +kernel
theorem dX11_value_29 : decode cX11_value 29 = .ok (.iconst 1, 1) := by decide +kernel
theorem dX11_value_30 : decode cX11_value 30 = .ok (.if_icmp .ne 17, 3) := by decide +kernel
theorem dX11_value_33 : decode cX11_value 33 = .ok (.aload_n 0, 1) := by decide +kernel
theorem dX11_value_34 : decode cX11_value 34 = .ok (.getfield 34, 3) := by decide +kernel
theorem dX11_value_37 : decode cX11_value 37 = .ok (.getfield 157, 3) := by decide +kernel
theorem dX11_value_40 : decode cX11_value 40 = .ok (.ifnonnull 7, 3) := by decide +kernel
theorem dX11_value_43 : decode cX11_value 43 = .ok (.iconst 1, 1) := by decide +kernel
theorem dX11_value_44 : decode cX11_value 44 = .ok (.goto 4, 3) := by decide +kernel
theorem dX11_value_47 : decode cX11_value 47 = .ok (.iconst 0, 1) := by decide +kernel
theorem dX11_value_48 : decode cX11_value 48 = .ok (.istore_n 1, 1) := by decide +kernel
theorem dX11_value_49 : decode cX11_value 49 = .ok (.iload_n 1, 1) := by decide +kernel
theorem dX11_value_50 : decode cX11_value 50 = .ok (.ifCond .eq 13, 3) := by decide +kernel
theorem dX11_value_53 : decode cX11_value 53 = .ok (.aload_n 0, 1) := by decide +kernel
theorem dX11_value_54 : decode cX11_value 54 = .ok (.getfield 34, 3) := by decide +kernel
theorem dX11_value_57 : decode cX11_value 57 = .ok (.getfield 160, 3) := by decide +kernel
theorem dX11_value_60 : decode cX11_value 60 = .ok (.goto 4, 3) := by decide +kernel
theorem dX11_value_63 : decode cX11_value 63 = .ok (.iconst 0, 1) := by decide +kernel
theorem dX11_value_64 : decode cX11_value 64 = .ok (.ireturn, 1) := by decide +kernel
theorem dX11_focus_0 : decode cX11_focus 0 = .ok (.aload_n 0, 1) := by decide +kernel
theorem dX11_focus_1 : decode cX11_focus 1 = .ok (.getfield 34, 3) := by decide +kernel
theorem dX11_focus_4 : decode cX11_focus 4 = .ok (.getfield 82, 3) := by decide +kernel
theorem dX11_focus_7 : decode cX11_focus 7 = .ok (.iconst 1, 1) := by decide +kernel
theorem dX11_focus_8 : decode cX11_focus 8 = .ok (.if_icmp .eq 5, 3) := by decide +kernel
theorem dX11_focus_11 : decode cX11_focus 11 = .ok (.iconst 0, 1) := by decide +kernel
theorem dX11_focus_12 : decode cX11_focus 12 = .ok (.ireturn, 1) := by decide +kernel
theorem dX11_focus_13 : decode cX11_focus 13 = .ok (.aload_n 0, 1) := by decide +kernel
theorem dX11_focus_14 : decode cX11_focus 14 = .ok (.getfield 34, 3) := by decide +kernel
theorem dX11_focus_17 : decode cX11_focus 17 = .ok (.getfield 157, 3) := by decide +kernel
theorem dX11_focus_20 : decode cX11_focus 20 = .ok (.ifnonnull 7, 3) := by decide +kernel
theorem dX11_focus_23 : decode cX11_focus 23 = .ok (.iconst 1, 1) := by decide +kernel
theorem dX11_focus_24 : decode cX11_focus 24 = .ok (.goto 4, 3) := by decide +kernel
theorem dX11_focus_27 : decode cX11_focus 27 = .ok (.iconst 2, 1) := by decide +kernel
theorem dX11_focus_28 : decode cX11_focus 28 = .ok (.ireturn, 1) := by decide +kernel
theorem dX11_trace_0 : decode cX11_trace 0 = .ok (.iload_n 1, 1) := by decide +kernel
theorem dX11_trace_1 : decode cX11_trace 1 = .ok (.ifCond .ge 5, 3) := by decide +kernel
theorem dX11_trace_4 : decode cX11_trace 4 = .ok (.iconst (-1), 1) := by decide +kernel
theorem dX11_trace_5 : decode cX11_trace 5 = .ok (.ireturn, 1) := by decide +kernel
theorem dX11_trace_6 : decode cX11_trace 6 = .ok (.iload_n 1, 1) := by decide +kernel
theorem dX11_trace_7 : decode cX11_trace 7 = .ok (.aload_n 0, 1) := by decide +kernel
theorem dX11_trace_8 : decode cX11_trace 8 = .ok (.getfield 34, 3) := by decide +kernel
theorem dX11_trace_11 : decode cX11_trace 11 = .ok (.getfield 126, 3) := by decide +kernel
theorem dX11_trace_14 : decode cX11_trace 14 = .ok (.if_icmp .ge 15, 3) := by decide +kernel
theorem dX11_trace_17 : decode cX11_trace 17 = .ok (.aload_n 0, 1) := by decide +kernel
theorem dX11_trace_18 : decode cX11_trace 18 = .ok (.getfield 34, 3) := by decide +kernel
theorem dX11_trace_21 : decode cX11_trace 21 = .ok (.getfield 163, 3) := by decide +kernel
theorem dX11_trace_24 : decode cX11_trace 24 = .ok (.iload_n 1, 1) := by decide +kernel
theorem dX11_trace_25 : decode cX11_trace 25 = .ok (.iaload, 1) := by decide +kernel
theorem dX11_trace_26 : decode cX11_trace 26 = .ok (.goto 5, 3) := by decide +kernel
theorem dX11_trace_29 : decode cX11_trace 29 = .ok (.bipush (-9), 2) := by decide +kernel
theorem dX11_trace_31 : decode cX11_trace 31 = .ok (.ireturn, 1) := by decide +kernel
theorem dX11_performed_0 : decode cX11_performed 0 = .ok (.iload_n 1, 1) := by decide +kernel
theorem dX11_performed_1 : decode cX11_performed 1 = .ok (.invokestatic 85, 3) := by decide +kernel
theorem dX11_performed_4 : decode cX11_performed 4 = .ok (.ifCond .ne 5, 3) := by decide +kernel
theorem dX11_performed_7 : decode cX11_performed 7 = .ok (.iconst (-1), 1) := by decide +kernel
theorem dX11_performed_8 : decode cX11_performed 8 = .ok (.ireturn, 1) := by decide +kernel
theorem dX11_performed_9 : decode cX11_performed 9 = .ok (.aload_n 0, 1) := by decide +kernel
theorem dX11_performed_10 : decode cX11_performed 10 = .ok (.getfield 34, 3) := by decide +kernel
theorem dX11_performed_13 : decode cX11_performed 13 = .ok (.getfield 166, 3) := by decide +kernel
theorem dX11_performed_16 : decode cX11_performed 16 = .ok (.iload_n 1, 1) := by decide +kernel
theorem dX11_performed_17 : decode cX11_performed 17 = .ok (.iaload, 1) := by decide +kernel
theorem dX11_performed_18 : decode cX11_performed 18 = .ok (.ireturn, 1) := by decide +kernel
theorem dX11_frame_0 : decode cX11_frame 0 = .ok (.aload_n 0, 1) := by decide +kernel
theorem dX11_frame_1 : decode cX11_frame 1 = .ok (.getfield 34, 3) := by decide +kernel
theorem dX11_frame_4 : decode cX11_frame 4 = .ok (.getfield 107, 3) := by decide +kernel
theorem dX11_frame_7 : decode cX11_frame 7 = .ok (.iload_n 1, 1) := by decide +kernel
theorem dX11_frame_8 : decode cX11_frame 8 = .ok (.invokevirtual 169, 3) := by decide +kernel
theorem dX11_frame_11 : decode cX11_frame 11 = .ok (.astore_n 3, 1) := by decide +kernel
theorem dX11_frame_12 : decode cX11_frame 12 = .ok (.aload_n 3, 1) := by decide +kernel
theorem dX11_frame_13 : decode cX11_frame 13 = .ok (.ifnull 12, 3) := by decide +kernel
theorem dX11_frame_16 : decode cX11_frame 16 = .ok (.iload_n 2, 1) := by decide +kernel
theorem dX11_frame_17 : decode cX11_frame 17 = .ok (.ifCond .eq 10, 3) := by decide +kernel
theorem dX11_frame_20 : decode cX11_frame 20 = .ok (.iload_n 2, 1) := by decide +kernel
theorem dX11_frame_21 : decode cX11_frame 21 = .ok (.iconst 1, 1) := by decide +kernel
theorem dX11_frame_22 : decode cX11_frame 22 = .ok (.if_icmp .eq 5, 3) := by decide +kernel
theorem dX11_frame_25 : decode cX11_frame 25 = .ok (.iconst (-1), 1) := by decide +kernel
theorem dX11_frame_26 : decode cX11_frame 26 = .ok (.ireturn, 1) := by decide +kernel
theorem dX11_frame_27 : decode cX11_frame 27 = .ok (.iload_n 2, 1) := by decide +kernel
theorem dX11_frame_28 : decode cX11_frame 28 = .ok (.ifCond .ne 10, 3) := by decide +kernel
theorem dX11_frame_31 : decode cX11_frame 31 = .ok (.aload_n 3, 1) := by decide +kernel
theorem dX11_frame_32 : decode cX11_frame 32 = .ok (.getfield 173, 3) := by decide +kernel
theorem dX11_frame_35 : decode cX11_frame 35 = .ok (.goto 11, 3) := by decide +kernel
theorem dX11_frame_38 : decode cX11_frame 38 = .ok (.aload_n 0, 1) := by decide +kernel
theorem dX11_frame_39 : decode cX11_frame 39 = .ok (.getfield 34, 3) := by decide +kernel
theorem dX11_frame_42 : decode cX11_frame 42 = .ok (.aload_n 3, 1) := by decide +kernel
theorem dX11_frame_43 : decode cX11_frame 43 = .ok (.invokevirtual 178, 3) := by decide +kernel
theorem dX11_frame_46 : decode cX11_frame 46 = .ok (.ireturn, 1) := by decide +kernel
theorem dX11_handler_0 : decode cX11_handler 0 = .ok (.iload_n 1, 1) := by decide +kernel
theorem dX11_handler_1 : decode cX11_handler 1 = .ok (.invokestatic 85, 3) := by decide +kernel
theorem dX11_handler_4 : decode cX11_handler 4 = .ok (.ifCond .ne 5, 3) := by decide +kernel
theorem dX11_handler_7 : decode cX11_handler 7 = .ok (.iconst (-1), 1) := by decide +kernel
theorem dX11_handler_8 : decode cX11_handler 8 = .ok (.ireturn, 1) := by decide +kernel
theorem dX11_handler_9 : decode cX11_handler 9 = .ok (.aload_n 0, 1) := by decide +kernel
theorem dX11_handler_10 : decode cX11_handler 10 = .ok (.getfield 34, 3) := by decide +kernel
theorem dX11_handler_13 : decode cX11_handler 13 = .ok (.getfield 107, 3) := by decide +kernel
theorem dX11_handler_16 : decode cX11_handler 16 = .ok (.iload_n 1, 1) := by decide +kernel
theorem dX11_handler_17 : decode cX11_handler 17 = .ok (.invokevirtual 182, 3) := by decide +kernel
theorem dX11_handler_20 : decode cX11_handler 20 = .ok (.istore_n 2, 1) := by decide +kernel
theorem dX11_handler_21 : decode cX11_handler 21 = .ok (.iload_n 2, 1) := by decide +kernel
theorem dX11_handler_22 : decode cX11_handler 22 = .ok (.ifCond .ge 8, 3) := by decide +kernel
theorem dX11_handler_25 : decode cX11_handler 25 = .ok (.bipush (-9), 2) := by decide +kernel
theorem dX11_handler_27 : decode cX11_handler 27 = .ok (.goto 17, 3) := by decide +kernel
theorem dX11_handler_30 : decode cX11_handler 30 = .ok (.aload_n 0, 1) := by decide +kernel
theorem dX11_handler_31 : decode cX11_handler 31 = .ok (.getfield 34, 3) := by decide +kernel
theorem dX11_handler_34 : decode cX11_handler 34 = .ok (.getfield 107, 3) := by decide +kernel
theorem dX11_handler_37 : decode cX11_handler 37 = .ok (.getfield 111, 3) := by decide +kernel
theorem dX11_handler_40 : decode cX11_handler 40 = .ok (.iconst 1, 1) := by decide +kernel
theorem dX11_handler_41 : decode cX11_handler 41 = .ok (.isub, 1) := by decide +kernel
theorem dX11_handler_42 : decode cX11_handler 42 = .ok (.iload_n 2, 1) := by decide +kernel
theorem dX11_handler_43 : decode cX11_handler 43 = .ok (.isub, 1) := by decide +kernel
theorem dX11_handler_44 : decode cX11_handler 44 = .ok (.ireturn, 1) := by decide +kernel
theorem dX11_keep_0 : decode cX11_keep 0 = .ok (.iload_n 1, 1) := by decide +kernel
theorem dX11_keep_1 : decode cX11_keep 1 = .ok (.invokestatic 186, 3) := by decide +kernel
theorem dX11_keep_4 : decode cX11_keep 4 = .ok (.ifCond .ne 5, 3) := by decide +kernel
theorem dX11_keep_7 : decode cX11_keep 7 = .ok (.iconst (-1), 1) := by decide +kernel
theorem dX11_keep_8 : decode cX11_keep 8 = .ok (.ireturn, 1) := by decide +kernel
theorem dX11_keep_9 : decode cX11_keep 9 = .ok (.aload_n 0, 1) := by decide +kernel
theorem dX11_keep_10 : decode cX11_keep 10 = .ok (.getfield 38, 3) := by decide +kernel
theorem dX11_keep_13 : decode cX11_keep 13 = .ok (.iload_n 1, 1) := by decide +kernel
theorem dX11_keep_14 : decode cX11_keep 14 = .ok (.aaload, 1) := by decide +kernel
theorem dX11_keep_15 : decode cX11_keep 15 = .ok (.ifnonnull 16, 3) := by decide +kernel
theorem dX11_keep_18 : decode cX11_keep 18 = .ok (.aload_n 0, 1) := by decide +kernel
theorem dX11_keep_19 : decode cX11_keep 19 = .ok (.getfield 38, 3) := by decide +kernel
theorem dX11_keep_22 : decode cX11_keep 22 = .ok (.iload_n 1, 1) := by decide +kernel
theorem dX11_keep_23 : decode cX11_keep 23 = .ok (.new 31, 3) := by decide +kernel
theorem dX11_keep_26 : decode cX11_keep 26 = .ok (.dup, 1) := by decide +kernel
theorem dX11_keep_27 : decode cX11_keep 27 = .ok (.invokespecial 33, 3) := by decide +kernel
theorem dX11_keep_30 : decode cX11_keep 30 = .ok (.aastore, 1) := by decide +kernel
theorem dX11_keep_31 : decode cX11_keep 31 = .ok (.aload_n 0, 1) := by decide +kernel
theorem dX11_keep_32 : decode cX11_keep 32 = .ok (.getfield 38, 3) := by decide +kernel
theorem dX11_keep_35 : decode cX11_keep 35 = .ok (.iload_n 1, 1) := by decide +kernel
theorem dX11_keep_36 : decode cX11_keep 36 = .ok (.aaload, 1) := by decide +kernel
theorem dX11_keep_37 : decode cX11_keep 37 = .ok (.aload_n 0, 1) := by decide +kernel
theorem dX11_keep_38 : decode cX11_keep 38 = .ok (.getfield 34, 3) := by decide +kernel
theorem dX11_keep_41 : decode cX11_keep 41 = .ok (.invokevirtual 189, 3) := by decide +kernel
theorem dX11_keep_44 : decode cX11_keep 44 = .ok (.aload_n 0, 1) := by decide +kernel
theorem dX11_keep_45 : decode cX11_keep 45 = .ok (.getfield 34, 3) := by decide +kernel
theorem dX11_keep_48 : decode cX11_keep 48 = .ok (.getfield 82, 3) := by decide +kernel
theorem dX11_keep_51 : decode cX11_keep 51 = .ok (.ireturn, 1) := by decide +kernel
theorem dX11_back_0 : decode cX11_back 0 = .ok (.iload_n 1, 1) := by decide +kernel
theorem dX11_back_1 : decode cX11_back 1 = .ok (.invokestatic 186, 3) := by decide +kernel
theorem dX11_back_4 : decode cX11_back 4 = .ok (.ifCond .ne 5, 3) := by decide +kernel
theorem dX11_back_7 : decode cX11_back 7 = .ok (.iconst (-1), 1) := by decide +kernel
theorem dX11_back_8 : decode cX11_back 8 = .ok (.ireturn, 1) := by decide +kernel
theorem dX11_back_9 : decode cX11_back 9 = .ok (.aload_n 0, 1) := by decide +kernel
theorem dX11_back_10 : decode cX11_back 10 = .ok (.getfield 38, 3) := by decide +kernel
theorem dX11_back_13 : decode cX11_back 13 = .ok (.iload_n 1, 1) := by decide +kernel
theorem dX11_back_14 : decode cX11_back 14 = .ok (.aaload, 1) := by decide +kernel
theorem dX11_back_15 : decode cX11_back 15 = .ok (.ifnonnull 6, 3) := by decide +kernel
theorem dX11_back_18 : decode cX11_back 18 = .ok (.bipush (-2), 2) := by decide +kernel
theorem dX11_back_20 : decode cX11_back 20 = .ok (.ireturn, 1) := by decide +kernel
theorem dX11_back_21 : decode cX11_back 21 = .ok (.aload_n 0, 1) := by decide +kernel
theorem dX11_back_22 : decode cX11_back 22 = .ok (.getfield 34, 3) := by decide +kernel
theorem dX11_back_25 : decode cX11_back 25 = .ok (.aload_n 0, 1) := by decide +kernel
theorem dX11_back_26 : decode cX11_back 26 = .ok (.getfield 38, 3) := by decide +kernel
theorem dX11_back_29 : decode cX11_back 29 = .ok (.iload_n 1, 1) := by decide +kernel
theorem dX11_back_30 : decode cX11_back 30 = .ok (.aaload, 1) := by decide +kernel
theorem dX11_back_31 : decode cX11_back 31 = .ok (.invokevirtual 189, 3) := by decide +kernel
theorem dX11_back_34 : decode cX11_back 34 = .ok (.aload_n 0, 1) := by decide +kernel
theorem dX11_back_35 : decode cX11_back 35 = .ok (.getfield 34, 3) := by decide +kernel
theorem dX11_back_38 : decode cX11_back 38 = .ok (.getfield 82, 3) := by decide +kernel
theorem dX11_back_41 : decode cX11_back 41 = .ok (.ireturn, 1) := by decide +kernel
theorem dX11_isOperation_0 : decode cX11_isOperation 0 = .ok (.iload_n 0, 1) := by decide +kernel
theorem dX11_isOperation_1 : decode cX11_isOperation 1 = .ok (.ifCond .lt 13, 3) := by decide +kernel
theorem dX11_isOperation_4 : decode cX11_isOperation 4 = .ok (.iload_n 0, 1) := by decide +kernel
theorem dX11_isOperation_5 : decode cX11_isOperation 5 = .ok (.bipush 6, 2) := by decide +kernel
theorem dX11_isOperation_7 : decode cX11_isOperation 7 = .ok (.if_icmp .ge 7, 3) := by decide +kernel
theorem dX11_isOperation_10 : decode cX11_isOperation 10 = .ok (.iconst 1, 1) := by decide +kernel
theorem dX11_isOperation_11 : decode cX11_isOperation 11 = .ok (.goto 4, 3) := by decide +kernel
theorem dX11_isOperation_14 : decode cX11_isOperation 14 = .ok (.iconst 0, 1) := by decide +kernel
theorem dX11_isOperation_15 : decode cX11_isOperation 15 = .ok (.ireturn, 1) := by decide +kernel
theorem dX11_isProcedure_0 : decode cX11_isProcedure 0 = .ok (.iload_n 0, 1) := by decide +kernel
theorem dX11_isProcedure_1 : decode cX11_isProcedure 1 = .ok (.ifCond .lt 12, 3) := by decide +kernel
theorem dX11_isProcedure_4 : decode cX11_isProcedure 4 = .ok (.iload_n 0, 1) := by decide +kernel
theorem dX11_isProcedure_5 : decode cX11_isProcedure 5 = .ok (.iconst 4, 1) := by decide +kernel
theorem dX11_isProcedure_6 : decode cX11_isProcedure 6 = .ok (.if_icmp .ge 7, 3) := by decide +kernel
theorem dX11_isProcedure_9 : decode cX11_isProcedure 9 = .ok (.iconst 1, 1) := by decide +kernel
theorem dX11_isProcedure_10 : decode cX11_isProcedure 10 = .ok (.goto 4, 3) := by decide +kernel
theorem dX11_isProcedure_13 : decode cX11_isProcedure 13 = .ok (.iconst 0, 1) := by decide +kernel
theorem dX11_isProcedure_14 : decode cX11_isProcedure 14 = .ok (.ireturn, 1) := by decide +kernel
theorem dX11_isImage_0 : decode cX11_isImage 0 = .ok (.iload_n 0, 1) := by decide +kernel
theorem dX11_isImage_1 : decode cX11_isImage 1 = .ok (.ifCond .lt 12, 3) := by decide +kernel
theorem dX11_isImage_4 : decode cX11_isImage 4 = .ok (.iload_n 0, 1) := by decide +kernel
theorem dX11_isImage_5 : decode cX11_isImage 5 = .ok (.iconst 2, 1) := by decide +kernel
theorem dX11_isImage_6 : decode cX11_isImage 6 = .ok (.if_icmp .ge 7, 3) := by decide +kernel
theorem dX11_isImage_9 : decode cX11_isImage 9 = .ok (.iconst 1, 1) := by decide +kernel
theorem dX11_isImage_10 : decode cX11_isImage 10 = .ok (.goto 4, 3) := by decide +kernel
theorem dX11_isImage_13 : decode cX11_isImage 13 = .ok (.iconst 0, 1) := by decide +kernel
theorem dX11_isImage_14 : decode cX11_isImage 14 = .ok (.ireturn, 1) := by decide +kernel
theorem dX11_isDigit_0 : decode cX11_isDigit 0 = .ok (.iload_n 0, 1) := by decide +kernel
theorem dX11_isDigit_1 : decode cX11_isDigit 1 = .ok (.bipush 48, 2) := by decide +kernel
theorem dX11_isDigit_3 : decode cX11_isDigit 3 = .ok (.if_icmp .lt 13, 3) := by decide +kernel
theorem dX11_isDigit_6 : decode cX11_isDigit 6 = .ok (.iload_n 0, 1) := by decide +kernel
theorem dX11_isDigit_7 : decode cX11_isDigit 7 = .ok (.bipush 57, 2) := by decide +kernel
theorem dX11_isDigit_9 : decode cX11_isDigit 9 = .ok (.if_icmp .gt 7, 3) := by decide +kernel
theorem dX11_isDigit_12 : decode cX11_isDigit 12 = .ok (.iconst 1, 1) := by decide +kernel
theorem dX11_isDigit_13 : decode cX11_isDigit 13 = .ok (.goto 4, 3) := by decide +kernel
theorem dX11_isDigit_16 : decode cX11_isDigit 16 = .ok (.iconst 0, 1) := by decide +kernel
theorem dX11_isDigit_17 : decode cX11_isDigit 17 = .ok (.ireturn, 1) := by decide +kernel
theorem dX11_isLetter_0 : decode cX11_isLetter 0 = .ok (.iload_n 0, 1) := by decide +kernel
theorem dX11_isLetter_1 : decode cX11_isLetter 1 = .ok (.bipush 97, 2) := by decide +kernel
theorem dX11_isLetter_3 : decode cX11_isLetter 3 = .ok (.if_icmp .lt 13, 3) := by decide +kernel
theorem dX11_isLetter_6 : decode cX11_isLetter 6 = .ok (.iload_n 0, 1) := by decide +kernel
theorem dX11_isLetter_7 : decode cX11_isLetter 7 = .ok (.bipush 122, 2) := by decide +kernel
theorem dX11_isLetter_9 : decode cX11_isLetter 9 = .ok (.if_icmp .gt 7, 3) := by decide +kernel
theorem dX11_isLetter_12 : decode cX11_isLetter 12 = .ok (.iconst 1, 1) := by decide +kernel
theorem dX11_isLetter_13 : decode cX11_isLetter 13 = .ok (.goto 4, 3) := by decide +kernel
theorem dX11_isLetter_16 : decode cX11_isLetter 16 = .ok (.iconst 0, 1) := by decide +kernel
theorem dX11_isLetter_17 : decode cX11_isLetter 17 = .ok (.ireturn, 1) := by decide +kernel
theorem dX12_init_0 : decode cX12_init 0 = .ok (.aload_n 0, 1) := by decide +kernel
theorem dX12_init_1 : decode cX12_init 1 = .ok (.invokespecial 1, 3) := by decide +kernel
theorem dX12_init_4 : decode cX12_init 4 = .ok (.aload_n 0, 1) := by decide +kernel
theorem dX12_init_5 : decode cX12_init 5 = .ok (.ldc 7, 2) := by decide +kernel
theorem dX12_init_7 : decode cX12_init 7 = .ok (.newarray .int, 2) := by decide +kernel
theorem dX12_init_9 : decode cX12_init 9 = .ok (.putfield 8, 3) := by decide +kernel
theorem dX12_init_12 : decode cX12_init 12 = .ok (.aload_n 0, 1) := by decide +kernel
theorem dX12_init_13 : decode cX12_init 13 = .ok (.sipush 8490, 3) := by decide +kernel
theorem dX12_init_16 : decode cX12_init 16 = .ok (.newarray .int, 2) := by decide +kernel
theorem dX12_init_18 : decode cX12_init 18 = .ok (.putfield 14, 3) := by decide +kernel
theorem dX12_init_21 : decode cX12_init 21 = .ok (.aload_n 0, 1) := by decide +kernel
theorem dX12_init_22 : decode cX12_init 22 = .ok (.sipush 16980, 3) := by decide +kernel
theorem dX12_init_25 : decode cX12_init 25 = .ok (.newarray .int, 2) := by decide +kernel
theorem dX12_init_27 : decode cX12_init 27 = .ok (.putfield 17, 3) := by decide +kernel
theorem dX12_init_30 : decode cX12_init 30 = .ok (.aload_n 0, 1) := by decide +kernel
theorem dX12_init_31 : decode cX12_init 31 = .ok (.ldc 20, 2) := by decide +kernel
theorem dX12_init_33 : decode cX12_init 33 = .ok (.newarray .int, 2) := by decide +kernel
theorem dX12_init_35 : decode cX12_init 35 = .ok (.putfield 21, 3) := by decide +kernel
theorem dX12_init_38 : decode cX12_init 38 = .ok (.aload_n 0, 1) := by decide +kernel
theorem dX12_init_39 : decode cX12_init 39 = .ok (.ldc 24, 2) := by decide +kernel
theorem dX12_init_41 : decode cX12_init 41 = .ok (.newarray .int, 2) := by decide +kernel
theorem dX12_init_43 : decode cX12_init 43 = .ok (.putfield 25, 3) := by decide +kernel
theorem dX12_init_46 : decode cX12_init 46 = .ok (.aload_n 0, 1) := by decide +kernel
theorem dX12_init_47 : decode cX12_init 47 = .ok (.bipush 120, 2) := by decide +kernel
theorem dX12_init_49 : decode cX12_init 49 = .ok (.newarray .int, 2) := by decide +kernel
theorem dX12_init_51 : decode cX12_init 51 = .ok (.putfield 28, 3) := by decide +kernel
theorem dX12_init_54 : decode cX12_init 54 = .ok (.aload_n 0, 1) := by decide +kernel
theorem dX12_init_55 : decode cX12_init 55 = .ok (.sipush 130, 3) := by decide +kernel
theorem dX12_init_58 : decode cX12_init 58 = .ok (.newarray .int, 2) := by decide +kernel
theorem dX12_init_60 : decode cX12_init 60 = .ok (.putfield 31, 3) := by decide +kernel
theorem dX12_init_63 : decode cX12_init 63 = .ok (.aload_n 0, 1) := by decide +kernel
theorem dX12_init_64 : decode cX12_init 64 = .ok (.sipush 130, 3) := by decide +kernel
theorem dX12_init_67 : decode cX12_init 67 = .ok (.newarray .int, 2) := by decide +kernel
theorem dX12_init_69 : decode cX12_init 69 = .ok (.putfield 34, 3) := by decide +kernel
theorem dX12_init_72 : decode cX12_init 72 = .ok (.aload_n 0, 1) := by decide +kernel
theorem dX12_init_73 : decode cX12_init 73 = .ok (.sipush 130, 3) := by decide +kernel
theorem dX12_init_76 : decode cX12_init 76 = .ok (.newarray .int, 2) := by decide +kernel
theorem dX12_init_78 : decode cX12_init 78 = .ok (.putfield 37, 3) := by decide +kernel
theorem dX12_init_81 : decode cX12_init 81 = .ok (.aload_n 0, 1) := by decide +kernel
theorem dX12_init_82 : decode cX12_init 82 = .ok (.sipush 130, 3) := by decide +kernel
theorem dX12_init_85 : decode cX12_init 85 = .ok (.newarray .int, 2) := by decide +kernel
theorem dX12_init_87 : decode cX12_init 87 = .ok (.putfield 40, 3) := by decide +kernel
theorem dX12_init_90 : decode cX12_init 90 = .ok (.aload_n 0, 1) := by decide +kernel
theorem dX12_init_91 : decode cX12_init 91 = .ok (.ldc 43, 2) := by decide +kernel
theorem dX12_init_93 : decode cX12_init 93 = .ok (.newarray .int, 2) := by decide +kernel
theorem dX12_init_95 : decode cX12_init 95 = .ok (.putfield 44, 3) := by decide +kernel
theorem dX12_init_98 : decode cX12_init 98 = .ok (.aload_n 0, 1) := by decide +kernel
theorem dX12_init_99 : decode cX12_init 99 = .ok (.sipush 400, 3) := by decide +kernel
theorem dX12_init_102 : decode cX12_init 102 = .ok (.newarray .int, 2) := by decide +kernel
theorem dX12_init_104 : decode cX12_init 104 = .ok (.putfield 47, 3) := by decide +kernel
theorem dX12_init_107 : decode cX12_init 107 = .ok (.aload_n 0, 1) := by decide +kernel
theorem dX12_init_108 : decode cX12_init 108 = .ok (.sipush 400, 3) := by decide +kernel
theorem dX12_init_111 : decode cX12_init 111 = .ok (.newarray .int, 2) := by decide +kernel
theorem dX12_init_113 : decode cX12_init 113 = .ok (.putfield 50, 3) := by decide +kernel
theorem dX12_init_116 : decode cX12_init 116 = .ok (.aload_n 0, 1) := by decide +kernel
theorem dX12_init_117 : decode cX12_init 117 = .ok (.ldc 43, 2) := by decide +kernel
theorem dX12_init_119 : decode cX12_init 119 = .ok (.newarray .int, 2) := by decide +kernel
theorem dX12_init_121 : decode cX12_init 121 = .ok (.putfield 53, 3) := by decide +kernel
theorem dX12_init_124 : decode cX12_init 124 = .ok (.aload_n 0, 1) := by decide +kernel
theorem dX12_init_125 : decode cX12_init 125 = .ok (.ldc 43, 2) := by decide +kernel
theorem dX12_init_127 : decode cX12_init 127 = .ok (.newarray .int, 2) := by decide +kernel
theorem dX12_init_129 : decode cX12_init 129 = .ok (.putfield 56, 3) := by decide +kernel
theorem dX12_init_132 : decode cX12_init 132 = .ok (.aload_n 0, 1) := by decide +kernel
theorem dX12_init_133 : decode cX12_init 133 = .ok (.bipush 100, 2) := by decide +kernel
theorem dX12_init_135 : decode cX12_init 135 = .ok (.newarray .int, 2) := by decide +kernel
theorem dX12_init_137 : decode cX12_init 137 = .ok (.putfield 59, 3) := by decide +kernel
theorem dX12_init_140 : decode cX12_init 140 = .ok (.aload_n 0, 1) := by decide +kernel
theorem dX12_init_141 : decode cX12_init 141 = .ok (.sipush 1210, 3) := by decide +kernel
theorem dX12_init_144 : decode cX12_init 144 = .ok (.newarray .int, 2) := by decide +kernel
theorem dX12_init_146 : decode cX12_init 146 = .ok (.putfield 62, 3) := by decide +kernel
theorem dX12_init_149 : decode cX12_init 149 = .ok (.aload_n 0, 1) := by decide +kernel
theorem dX12_init_150 : decode cX12_init 150 = .ok (.sipush 1210, 3) := by decide +kernel
theorem dX12_init_153 : decode cX12_init 153 = .ok (.newarray .int, 2) := by decide +kernel
theorem dX12_init_155 : decode cX12_init 155 = .ok (.putfield 65, 3) := by decide +kernel
theorem dX12_init_158 : decode cX12_init 158 = .ok (.aload_n 0, 1) := by decide +kernel
theorem dX12_init_159 : decode cX12_init 159 = .ok (.sipush 1200, 3) := by decide +kernel
theorem dX12_init_162 : decode cX12_init 162 = .ok (.newarray .int, 2) := by decide +kernel
theorem dX12_init_164 : decode cX12_init 164 = .ok (.putfield 68, 3) := by decide +kernel
theorem dX12_init_167 : decode cX12_init 167 = .ok (.iconst 0, 1) := by decide +kernel
theorem dX12_init_168 : decode cX12_init 168 = .ok (.istore_n 1, 1) := by decide +kernel
theorem dX12_init_169 : decode cX12_init 169 = .ok (.iload_n 1, 1) := by decide +kernel
theorem dX12_init_170 : decode cX12_init 170 = .ok (.iconst 5, 1) := by decide +kernel
theorem dX12_init_171 : decode cX12_init 171 = .ok (.if_icmp .ge 17, 3) := by decide +kernel
theorem dX12_init_174 : decode cX12_init 174 = .ok (.aload_n 0, 1) := by decide +kernel
theorem dX12_init_175 : decode cX12_init 175 = .ok (.getfield 14, 3) := by decide +kernel
theorem dX12_init_178 : decode cX12_init 178 = .ok (.iload_n 1, 1) := by decide +kernel
theorem dX12_init_179 : decode cX12_init 179 = .ok (.bipush (-9), 2) := by decide +kernel
theorem dX12_init_181 : decode cX12_init 181 = .ok (.iastore, 1) := by decide +kernel
theorem dX12_init_182 : decode cX12_init 182 = .ok (.iinc 1 1, 3) := by decide +kernel
theorem dX12_init_185 : decode cX12_init 185 = .ok (.goto (-16), 3) := by decide +kernel
theorem dX12_init_188 : decode cX12_init 188 = .ok (.aload_n 0, 1) := by decide +kernel
theorem dX12_init_189 : decode cX12_init 189 = .ok (.invokevirtual 71, 3) := by decide +kernel
theorem dX12_init_192 : decode cX12_init 192 = .ok (.aload_n 0, 1) := by decide +kernel
theorem dX12_init_193 : decode cX12_init 193 = .ok (.getfield 14, 3) := by decide +kernel
theorem dX12_init_196 : decode cX12_init 196 = .ok (.iconst 5, 1) := by decide +kernel
theorem dX12_init_197 : decode cX12_init 197 = .ok (.iconst 0, 1) := by decide +kernel
theorem dX12_init_198 : decode cX12_init 198 = .ok (.iastore, 1) := by decide +kernel
theorem dX12_init_199 : decode cX12_init 199 = .ok (.return_, 1) := by decide +kernel
theorem dX12_isIn_0 : decode cX12_isIn 0 = .ok (.iload_n 0, 1) := by decide +kernel
theorem dX12_isIn_1 : decode cX12_isIn 1 = .ok (.iload_n 1, 1) := by decide +kernel
theorem dX12_isIn_2 : decode cX12_isIn 2 = .ok (.if_icmp .lt 12, 3) := by decide +kernel
theorem dX12_isIn_5 : decode cX12_isIn 5 = .ok (.iload_n 0, 1) := by decide +kernel
theorem dX12_isIn_6 : decode cX12_isIn 6 = .ok (.iload_n 2, 1) := by decide +kernel
theorem dX12_isIn_7 : decode cX12_isIn 7 = .ok (.if_icmp .gt 7, 3) := by decide +kernel
theorem dX12_isIn_10 : decode cX12_isIn 10 = .ok (.iconst 1, 1) := by decide +kernel
theorem dX12_isIn_11 : decode cX12_isIn 11 = .ok (.goto 4, 3) := by decide +kernel
theorem dX12_isIn_14 : decode cX12_isIn 14 = .ok (.iconst 0, 1) := by decide +kernel
theorem dX12_isIn_15 : decode cX12_isIn 15 = .ok (.ireturn, 1) := by decide +kernel
theorem dX12_kind_0 : decode cX12_kind 0 = .ok (.aload_n 0, 1) := by decide +kernel
theorem dX12_kind_1 : decode cX12_kind 1 = .ok (.getfield 8, 3) := by decide +kernel
theorem dX12_kind_4 : decode cX12_kind 4 = .ok (.iconst 5, 1) := by decide +kernel
theorem dX12_kind_5 : decode cX12_kind 5 = .ok (.iload_n 1, 1) := by decide +kernel
theorem dX12_kind_6 : decode cX12_kind 6 = .ok (.imul, 1) := by decide +kernel
theorem dX12_kind_7 : decode cX12_kind 7 = .ok (.iaload, 1) := by decide +kernel
theorem dX12_kind_8 : decode cX12_kind 8 = .ok (.ireturn, 1) := by decide +kernel
theorem dX12_argument_0 : decode cX12_argument 0 = .ok (.aload_n 0, 1) := by decide +kernel
theorem dX12_argument_1 : decode cX12_argument 1 = .ok (.getfield 8, 3) := by decide +kernel
theorem dX12_argument_4 : decode cX12_argument 4 = .ok (.iconst 5, 1) := by decide +kernel
theorem dX12_argument_5 : decode cX12_argument 5 = .ok (.iload_n 1, 1) := by decide +kernel
theorem dX12_argument_6 : decode cX12_argument 6 = .ok (.imul, 1) := by decide +kernel
theorem dX12_argument_7 : decode cX12_argument 7 = .ok (.iconst 1, 1) := by decide +kernel
theorem dX12_argument_8 : decode cX12_argument 8 = .ok (.iadd, 1) := by decide +kernel
theorem dX12_argument_9 : decode cX12_argument 9 = .ok (.iaload, 1) := by decide +kernel
theorem dX12_argument_10 : decode cX12_argument 10 = .ok (.ireturn, 1) := by decide +kernel
theorem dX12_part_0 : decode cX12_part 0 = .ok (.aload_n 0, 1) := by decide +kernel
theorem dX12_part_1 : decode cX12_part 1 = .ok (.getfield 8, 3) := by decide +kernel
theorem dX12_part_4 : decode cX12_part 4 = .ok (.iconst 5, 1) := by decide +kernel
theorem dX12_part_5 : decode cX12_part 5 = .ok (.iload_n 1, 1) := by decide +kernel
theorem dX12_part_6 : decode cX12_part 6 = .ok (.imul, 1) := by decide +kernel
theorem dX12_part_7 : decode cX12_part 7 = .ok (.iconst 1, 1) := by decide +kernel
theorem dX12_part_8 : decode cX12_part 8 = .ok (.iadd, 1) := by decide +kernel
theorem dX12_part_9 : decode cX12_part 9 = .ok (.iload_n 2, 1) := by decide +kernel
theorem dX12_part_10 : decode cX12_part 10 = .ok (.iadd, 1) := by decide +kernel
theorem dX12_part_11 : decode cX12_part 11 = .ok (.iaload, 1) := by decide +kernel
theorem dX12_part_12 : decode cX12_part 12 = .ok (.ireturn, 1) := by decide +kernel
theorem dX12_write_0 : decode cX12_write 0 = .ok (.iload_n 1, 1) := by decide +kernel
theorem dX12_write_1 : decode cX12_write 1 = .ok (.bipush 32, 2) := by decide +kernel
theorem dX12_write_3 : decode cX12_write 3 = .ok (.bipush 126, 2) := by decide +kernel
theorem dX12_write_5 : decode cX12_write 5 = .ok (.invokestatic 74, 3) := by decide +kernel
theorem dX12_write_8 : decode cX12_write 8 = .ok (.ifCond .ne 5, 3) := by decide +kernel
theorem dX12_write_11 : decode cX12_write 11 = .ok (.iconst (-1), 1) := by decide +kernel
theorem dX12_write_12 : decode cX12_write 12 = .ok (.ireturn, 1) := by decide +kernel
theorem dX12_write_13 : decode cX12_write 13 = .ok (.aload_n 0, 1) := by decide +kernel
theorem dX12_write_14 : decode cX12_write 14 = .ok (.getfield 78, 3) := by decide +kernel
theorem dX12_write_17 : decode cX12_write 17 = .ok (.bipush 120, 2) := by decide +kernel
theorem dX12_write_19 : decode cX12_write 19 = .ok (.if_icmp .ne 6, 3) := by decide +kernel
theorem dX12_write_22 : decode cX12_write 22 = .ok (.bipush (-3), 2) := by decide +kernel
theorem dX12_write_24 : decode cX12_write 24 = .ok (.ireturn, 1) := by decide +kernel
theorem dX12_write_25 : decode cX12_write 25 = .ok (.aload_n 0, 1) := by decide +kernel
theorem dX12_write_26 : decode cX12_write 26 = .ok (.getfield 28, 3) := by decide +kernel
theorem dX12_write_29 : decode cX12_write 29 = .ok (.aload_n 0, 1) := by decide +kernel
theorem dX12_write_30 : decode cX12_write 30 = .ok (.getfield 78, 3) := by decide +kernel
theorem dX12_write_33 : decode cX12_write 33 = .ok (.iload_n 1, 1) := by decide +kernel
theorem dX12_write_34 : decode cX12_write 34 = .ok (.iastore, 1) := by decide +kernel
theorem dX12_write_35 : decode cX12_write 35 = .ok (.aload_n 0, 1) := by decide +kernel
theorem dX12_write_36 : decode cX12_write 36 = .ok (.dup, 1) := by decide +kernel
theorem dX12_write_37 : decode cX12_write 37 = .ok (.getfield 78, 3) := by decide +kernel
theorem dX12_write_40 : decode cX12_write 40 = .ok (.iconst 1, 1) := by decide +kernel
theorem dX12_write_41 : decode cX12_write 41 = .ok (.iadd, 1) := by decide +kernel
theorem dX12_write_42 : decode cX12_write 42 = .ok (.putfield 78, 3) := by decide +kernel
theorem dX12_write_45 : decode cX12_write 45 = .ok (.aload_n 0, 1) := by decide +kernel
theorem dX12_write_46 : decode cX12_write 46 = .ok (.getfield 78, 3) := by decide +kernel
theorem dX12_write_49 : decode cX12_write 49 = .ok (.ireturn, 1) := by decide +kernel
theorem dX12_wipe_0 : decode cX12_wipe 0 = .ok (.aload_n 0, 1) := by decide +kernel
theorem dX12_wipe_1 : decode cX12_wipe 1 = .ok (.getfield 78, 3) := by decide +kernel
theorem dX12_wipe_4 : decode cX12_wipe 4 = .ok (.istore_n 1, 1) := by decide +kernel
theorem dX12_wipe_5 : decode cX12_wipe 5 = .ok (.aload_n 0, 1) := by decide +kernel
theorem dX12_wipe_6 : decode cX12_wipe 6 = .ok (.iconst 0, 1) := by decide +kernel
theorem dX12_wipe_7 : decode cX12_wipe 7 = .ok (.putfield 78, 3) := by decide +kernel
theorem dX12_wipe_10 : decode cX12_wipe 10 = .ok (.iload_n 1, 1) := by decide +kernel
theorem dX12_wipe_11 : decode cX12_wipe 11 = .ok (.ireturn, 1) := by decide +kernel
theorem dX12_skip_0 : decode cX12_skip 0 = .ok (.aload_n 0, 1) := by decide +kernel
theorem dX12_skip_1 : decode cX12_skip 1 = .ok (.getfield 82, 3) := by decide +kernel
theorem dX12_skip_4 : decode cX12_skip 4 = .ok (.aload_n 0, 1) := by decide +kernel
theorem dX12_skip_5 : decode cX12_skip 5 = .ok (.getfield 78, 3) := by decide +kernel
theorem dX12_skip_8 : decode cX12_skip 8 = .ok (.if_icmp .ge 30, 3) := by decide +kernel
theorem dX12_skip_11 : decode cX12_skip 11 = .ok (.aload_n 0, 1) := by decide +kernel
theorem dX12_skip_12 : decode cX12_skip 12 = .ok (.getfield 28, 3) := by decide +kernel
theorem dX12_skip_15 : decode cX12_skip 15 = .ok (.aload_n 0, 1) := by decide +kernel
theorem dX12_skip_16 : decode cX12_skip 16 = .ok (.getfield 82, 3) := by decide +kernel
theorem dX12_skip_19 : decode cX12_skip 19 = .ok (.iaload, 1) := by decide +kernel
theorem dX12_skip_20 : decode cX12_skip 20 = .ok (.bipush 32, 2) := by decide +kernel
theorem dX12_skip_22 : decode cX12_skip 22 = .ok (.if_icmp .ne 16, 3) := by decide +kernel
theorem dX12_skip_25 : decode cX12_skip 25 = .ok (.aload_n 0, 1) := by decide +kernel
theorem dX12_skip_26 : decode cX12_skip 26 = .ok (.dup, 1) := by decide +kernel
theorem dX12_skip_27 : decode cX12_skip 27 = .ok (.getfield 82, 3) := by decide +kernel
theorem dX12_skip_30 : decode cX12_skip 30 = .ok (.iconst 1, 1) := by decide +kernel
theorem dX12_skip_31 : decode cX12_skip 31 = .ok (.iadd, 1) := by decide +kernel
theorem dX12_skip_32 : decode cX12_skip 32 = .ok (.putfield 82, 3) := by decide +kernel
theorem dX12_skip_35 : decode cX12_skip 35 = .ok (.goto (-35), 3) := by decide +kernel
theorem dX12_skip_38 : decode cX12_skip 38 = .ok (.return_, 1) := by decide +kernel
theorem dX12_here_0 : decode cX12_here 0 = .ok (.aload_n 0, 1) := by decide +kernel
theorem dX12_here_1 : decode cX12_here 1 = .ok (.getfield 82, 3) := by decide +kernel
theorem dX12_here_4 : decode cX12_here 4 = .ok (.aload_n 0, 1) := by decide +kernel
theorem dX12_here_5 : decode cX12_here 5 = .ok (.getfield 78, 3) := by decide +kernel
theorem dX12_here_8 : decode cX12_here 8 = .ok (.if_icmp .ge 15, 3) := by decide +kernel
theorem dX12_here_11 : decode cX12_here 11 = .ok (.aload_n 0, 1) := by decide +kernel
theorem dX12_here_12 : decode cX12_here 12 = .ok (.getfield 28, 3) := by decide +kernel
theorem dX12_here_15 : decode cX12_here 15 = .ok (.aload_n 0, 1) := by decide +kernel
theorem dX12_here_16 : decode cX12_here 16 = .ok (.getfield 82, 3) := by decide +kernel
theorem dX12_here_19 : decode cX12_here 19 = .ok (.iaload, 1) := by decide +kernel
theorem dX12_here_20 : decode cX12_here 20 = .ok (.goto 4, 3) := by decide +kernel
theorem dX12_here_23 : decode cX12_here 23 = .ok (.iconst 0, 1) := by decide +kernel
theorem dX12_here_24 : decode cX12_here 24 = .ok (.ireturn, 1) := by decide +kernel
theorem dX12_fails_0 : decode cX12_fails 0 = .ok (.aload_n 0, 1) := by decide +kernel
theorem dX12_fails_1 : decode cX12_fails 1 = .ok (.aload_n 0, 1) := by decide +kernel
theorem dX12_fails_2 : decode cX12_fails 2 = .ok (.getfield 85, 3) := by decide +kernel
theorem dX12_fails_5 : decode cX12_fails 5 = .ok (.bipush (-9), 2) := by decide +kernel
theorem dX12_fails_7 : decode cX12_fails 7 = .ok (.if_icmp .ne 10, 3) := by decide +kernel
theorem dX12_fails_10 : decode cX12_fails 10 = .ok (.aload_n 0, 1) := by decide +kernel
theorem dX12_fails_11 : decode cX12_fails 11 = .ok (.getfield 82, 3) := by decide +kernel
theorem dX12_fails_14 : decode cX12_fails 14 = .ok (.goto 7, 3) := by decide +kernel
theorem dX12_fails_17 : decode cX12_fails 17 = .ok (.aload_n 0, 1) := by decide +kernel
theorem dX12_fails_18 : decode cX12_fails 18 = .ok (.getfield 85, 3) := by decide +kernel
theorem dX12_fails_21 : decode cX12_fails 21 = .ok (.putfield 85, 3) := by decide +kernel
theorem dX12_fails_24 : decode cX12_fails 24 = .ok (.return_, 1) := by decide +kernel
theorem dX12_make_0 : decode cX12_make 0 = .ok (.aload_n 0, 1) := by decide +kernel
theorem dX12_make_1 : decode cX12_make 1 = .ok (.getfield 88, 3) := by decide +kernel
theorem dX12_make_4 : decode cX12_make 4 = .ok (.istore_n 3, 1) := by decide +kernel
theorem dX12_make_5 : decode cX12_make 5 = .ok (.aload_n 0, 1) := by decide +kernel
theorem dX12_make_6 : decode cX12_make 6 = .ok (.dup, 1) := by decide +kernel
theorem dX12_make_7 : decode cX12_make 7 = .ok (.getfield 88, 3) := by decide +kernel
theorem dX12_make_10 : decode cX12_make 10 = .ok (.iconst 1, 1) := by decide +kernel
theorem dX12_make_11 : decode cX12_make 11 = .ok (.iadd, 1) := by decide +kernel
theorem dX12_make_12 : decode cX12_make 12 = .ok (.putfield 88, 3) := by decide +kernel
theorem dX12_make_15 : decode cX12_make 15 = .ok (.aload_n 0, 1) := by decide +kernel
theorem dX12_make_16 : decode cX12_make 16 = .ok (.getfield 8, 3) := by decide +kernel
theorem dX12_make_19 : decode cX12_make 19 = .ok (.iconst 5, 1) := by decide +kernel
theorem dX12_make_20 : decode cX12_make 20 = .ok (.iload_n 3, 1) := by decide +kernel
theorem dX12_make_21 : decode cX12_make 21 = .ok (.imul, 1) := by decide +kernel
theorem dX12_make_22 : decode cX12_make 22 = .ok (.iload_n 1, 1) := by decide +kernel
theorem dX12_make_23 : decode cX12_make 23 = .ok (.iastore, 1) := by decide +kernel
theorem dX12_make_24 : decode cX12_make 24 = .ok (.aload_n 0, 1) := by decide +kernel
theorem dX12_make_25 : decode cX12_make 25 = .ok (.getfield 8, 3) := by decide +kernel
theorem dX12_make_28 : decode cX12_make 28 = .ok (.iconst 5, 1) := by decide +kernel
theorem dX12_make_29 : decode cX12_make 29 = .ok (.iload_n 3, 1) := by decide +kernel
theorem dX12_make_30 : decode cX12_make 30 = .ok (.imul, 1) := by decide +kernel
theorem dX12_make_31 : decode cX12_make 31 = .ok (.iconst 1, 1) := by decide +kernel
theorem dX12_make_32 : decode cX12_make 32 = .ok (.iadd, 1) := by decide +kernel
theorem dX12_make_33 : decode cX12_make 33 = .ok (.iload_n 2, 1) := by decide +kernel
theorem dX12_make_34 : decode cX12_make 34 = .ok (.iastore, 1) := by decide +kernel
theorem dX12_make_35 : decode cX12_make 35 = .ok (.aload_n 0, 1) := by decide +kernel
theorem dX12_make_36 : decode cX12_make 36 = .ok (.getfield 8, 3) := by decide +kernel
theorem dX12_make_39 : decode cX12_make 39 = .ok (.iconst 5, 1) := by decide +kernel
theorem dX12_make_40 : decode cX12_make 40 = .ok (.iload_n 3, 1) := by decide +kernel
theorem dX12_make_41 : decode cX12_make 41 = .ok (.imul, 1) := by decide +kernel
theorem dX12_make_42 : decode cX12_make 42 = .ok (.iconst 2, 1) := by decide +kernel
theorem dX12_make_43 : decode cX12_make 43 = .ok (.iadd, 1) := by decide +kernel
theorem dX12_make_44 : decode cX12_make 44 = .ok (.bipush (-9), 2) := by decide +kernel
theorem dX12_make_46 : decode cX12_make 46 = .ok (.iastore, 1) := by decide +kernel
theorem dX12_make_47 : decode cX12_make 47 = .ok (.aload_n 0, 1) := by decide +kernel
theorem dX12_make_48 : decode cX12_make 48 = .ok (.getfield 8, 3) := by decide +kernel
theorem dX12_make_51 : decode cX12_make 51 = .ok (.iconst 5, 1) := by decide +kernel
theorem dX12_make_52 : decode cX12_make 52 = .ok (.iload_n 3, 1) := by decide +kernel
theorem dX12_make_53 : decode cX12_make 53 = .ok (.imul, 1) := by decide +kernel
theorem dX12_make_54 : decode cX12_make 54 = .ok (.iconst 3, 1) := by decide +kernel
theorem dX12_make_55 : decode cX12_make 55 = .ok (.iadd, 1) := by decide +kernel
theorem dX12_make_56 : decode cX12_make 56 = .ok (.bipush (-9), 2) := by decide +kernel
theorem dX12_make_58 : decode cX12_make 58 = .ok (.iastore, 1) := by decide +kernel
theorem dX12_make_59 : decode cX12_make 59 = .ok (.aload_n 0, 1) := by decide +kernel
theorem dX12_make_60 : decode cX12_make 60 = .ok (.getfield 8, 3) := by decide +kernel
theorem dX12_make_63 : decode cX12_make 63 = .ok (.iconst 5, 1) := by decide +kernel
theorem dX12_make_64 : decode cX12_make 64 = .ok (.iload_n 3, 1) := by decide +kernel
theorem dX12_make_65 : decode cX12_make 65 = .ok (.imul, 1) := by decide +kernel
theorem dX12_make_66 : decode cX12_make 66 = .ok (.iconst 4, 1) := by decide +kernel
theorem dX12_make_67 : decode cX12_make 67 = .ok (.iadd, 1) := by decide +kernel
theorem dX12_make_68 : decode cX12_make 68 = .ok (.bipush (-9), 2) := by decide +kernel
theorem dX12_make_70 : decode cX12_make 70 = .ok (.iastore, 1) := by decide +kernel
theorem dX12_make_71 : decode cX12_make 71 = .ok (.aload_n 0, 1) := by decide +kernel
theorem dX12_make_72 : decode cX12_make 72 = .ok (.dup, 1) := by decide +kernel
theorem dX12_make_73 : decode cX12_make 73 = .ok (.getfield 91, 3) := by decide +kernel
theorem dX12_make_76 : decode cX12_make 76 = .ok (.iload_n 1, 1) := by decide +kernel
theorem dX12_make_77 : decode cX12_make 77 = .ok (.bipush 16, 2) := by decide +kernel
theorem dX12_make_79 : decode cX12_make 79 = .ok (.if_icmp .ne 7, 3) := by decide +kernel
theorem dX12_make_82 : decode cX12_make 82 = .ok (.iconst 0, 1) := by decide +kernel
theorem dX12_make_83 : decode cX12_make 83 = .ok (.goto 4, 3) := by decide +kernel
theorem dX12_make_86 : decode cX12_make 86 = .ok (.iconst 1, 1) := by decide +kernel
theorem dX12_make_87 : decode cX12_make 87 = .ok (.iadd, 1) := by decide +kernel
theorem dX12_make_88 : decode cX12_make 88 = .ok (.putfield 91, 3) := by decide +kernel
theorem dX12_make_91 : decode cX12_make 91 = .ok (.iload_n 3, 1) := by decide +kernel
theorem dX12_make_92 : decode cX12_make 92 = .ok (.ireturn, 1) := by decide +kernel
theorem dX12_take_0 : decode cX12_take 0 = .ok (.aload_n 0, 1) := by decide +kernel
theorem dX12_take_1 : decode cX12_take 1 = .ok (.invokevirtual 94, 3) := by decide +kernel
theorem dX12_take_4 : decode cX12_take 4 = .ok (.aload_n 0, 1) := by decide +kernel
theorem dX12_take_5 : decode cX12_take 5 = .ok (.invokevirtual 97, 3) := by decide +kernel
theorem dX12_take_8 : decode cX12_take 8 = .ok (.iload_n 1, 1) := by decide +kernel
theorem dX12_take_9 : decode cX12_take 9 = .ok (.iload_n 2, 1) := by decide +kernel
theorem dX12_take_10 : decode cX12_take 10 = .ok (.invokestatic 74, 3) := by decide +kernel
theorem dX12_take_13 : decode cX12_take 13 = .ok (.ifCond .ne 9, 3) := by decide +kernel
theorem dX12_take_16 : decode cX12_take 16 = .ok (.aload_n 0, 1) := by decide +kernel
theorem dX12_take_17 : decode cX12_take 17 = .ok (.invokevirtual 101, 3) := by decide +kernel
theorem dX12_take_20 : decode cX12_take 20 = .ok (.iconst 0, 1) := by decide +kernel
theorem dX12_take_21 : decode cX12_take 21 = .ok (.ireturn, 1) := by decide +kernel
theorem dX12_take_22 : decode cX12_take 22 = .ok (.aload_n 0, 1) := by decide +kernel
theorem dX12_take_23 : decode cX12_take 23 = .ok (.dup, 1) := by decide +kernel
theorem dX12_take_24 : decode cX12_take 24 = .ok (.getfield 82, 3) := by decide +kernel
theorem dX12_take_27 : decode cX12_take 27 = .ok (.iconst 1, 1) := by decide +kernel
theorem dX12_take_28 : decode cX12_take 28 = .ok (.iadd, 1) := by decide +kernel
theorem dX12_take_29 : decode cX12_take 29 = .ok (.putfield 82, 3) := by decide +kernel
theorem dX12_take_32 : decode cX12_take 32 = .ok (.aload_n 0, 1) := by decide +kernel
theorem dX12_take_33 : decode cX12_take 33 = .ok (.getfield 28, 3) := by decide +kernel
theorem dX12_take_36 : decode cX12_take 36 = .ok (.aload_n 0, 1) := by decide +kernel
theorem dX12_take_37 : decode cX12_take 37 = .ok (.getfield 82, 3) := by decide +kernel
theorem dX12_take_40 : decode cX12_take 40 = .ok (.iconst 1, 1) := by decide +kernel
theorem dX12_take_41 : decode cX12_take 41 = .ok (.isub, 1) := by decide +kernel
theorem dX12_take_42 : decode cX12_take 42 = .ok (.iaload, 1) := by decide +kernel
theorem dX12_take_43 : decode cX12_take 43 = .ok (.iload_n 1, 1) := by decide +kernel
theorem dX12_take_44 : decode cX12_take 44 = .ok (.isub, 1) := by decide +kernel
theorem dX12_take_45 : decode cX12_take 45 = .ok (.ireturn, 1) := by decide +kernel
theorem dX12_readNumber_0 : decode cX12_readNumber 0 = .ok (.iconst 0, 1) := by decide +kernel
theorem dX12_readNumber_1 : decode cX12_readNumber 1 = .ok (.istore_n 1, 1) := by decide +kernel
theorem dX12_readNumber_2 : decode cX12_readNumber 2 = .ok (.iconst 0, 1) := by decide +kernel
theorem dX12_readNumber_3 : decode cX12_readNumber 3 = .ok (.istore_n 2, 1) := by decide +kernel
theorem dX12_readNumber_4 : decode cX12_readNumber 4 = .ok (.iload_n 2, 1) := by decide +kernel
theorem dX12_readNumber_5 : decode cX12_readNumber 5 = .ok (.iconst 3, 1) := by decide +kernel
theorem dX12_readNumber_6 : decode cX12_readNumber 6 = .ok (.if_icmp .ge 46, 3) := by decide +kernel
theorem dX12_readNumber_9 : decode cX12_readNumber 9 = .ok (.aload_n 0, 1) := by decide +kernel
theorem dX12_readNumber_10 : decode cX12_readNumber 10 = .ok (.invokevirtual 97, 3) := by decide +kernel
theorem dX12_readNumber_13 : decode cX12_readNumber 13 = .ok (.bipush 48, 2) := by decide +kernel
theorem dX12_readNumber_15 : decode cX12_readNumber 15 = .ok (.bipush 57, 2) := by decide +kernel
theorem dX12_readNumber_17 : decode cX12_readNumber 17 = .ok (.invokestatic 74, 3) := by decide +kernel
theorem dX12_readNumber_20 : decode cX12_readNumber 20 = .ok (.ifCond .eq 32, 3) := by decide +kernel
theorem dX12_readNumber_23 : decode cX12_readNumber 23 = .ok (.bipush 10, 2) := by decide +kernel
theorem dX12_readNumber_25 : decode cX12_readNumber 25 = .ok (.iload_n 1, 1) := by decide +kernel
theorem dX12_readNumber_26 : decode cX12_readNumber 26 = .ok (.imul, 1) := by decide +kernel
theorem dX12_readNumber_27 : decode cX12_readNumber 27 = .ok (.aload_n 0, 1) := by decide +kernel
theorem dX12_readNumber_28 : decode cX12_readNumber 28 = .ok (.invokevirtual 97, 3) := by decide +kernel
theorem dX12_readNumber_31 : decode cX12_readNumber 31 = .ok (.iadd, 1) := by decide +kernel
theorem dX12_readNumber_32 : decode cX12_readNumber 32 = .ok (.bipush 48, 2) := by decide +kernel
theorem dX12_readNumber_34 : decode cX12_readNumber 34 = .ok (.isub, 1) := by decide +kernel
theorem dX12_readNumber_35 : decode cX12_readNumber 35 = .ok (.istore_n 1, 1) := by decide +kernel
theorem dX12_readNumber_36 : decode cX12_readNumber 36 = .ok (.aload_n 0, 1) := by decide +kernel
theorem dX12_readNumber_37 : decode cX12_readNumber 37 = .ok (.dup, 1) := by decide +kernel
theorem dX12_readNumber_38 : decode cX12_readNumber 38 = .ok (.getfield 82, 3) := by decide +kernel
theorem dX12_readNumber_41 : decode cX12_readNumber 41 = .ok (.iconst 1, 1) := by decide +kernel
theorem dX12_readNumber_42 : decode cX12_readNumber 42 = .ok (.iadd, 1) := by decide +kernel
theorem dX12_readNumber_43 : decode cX12_readNumber 43 = .ok (.putfield 82, 3) := by decide +kernel
theorem dX12_readNumber_46 : decode cX12_readNumber 46 = .ok (.iinc 2 1, 3) := by decide +kernel
theorem dX12_readNumber_49 : decode cX12_readNumber 49 = .ok (.goto (-45), 3) := by decide +kernel
theorem dX12_readNumber_52 : decode cX12_readNumber 52 = .ok (.iload_n 1, 1) := by decide +kernel
theorem dX12_readNumber_53 : decode cX12_readNumber 53 = .ok (.ireturn, 1) := by decide +kernel
theorem dX12_kindOf_0 : decode cX12_kindOf 0 = .ok (.iload_n 0, 1) := by decide +kernel
theorem dX12_kindOf_1 : decode cX12_kindOf 1 = .ok (.lookupswitch 161 #[(33, 140), (37, 149), (38, 152), (42, 127), (43, 123), (45, 125), (59, 134), (60, 129), (61, 137), (63, 131), (64, 155), (94, 143), (123, 158), (126, 146)], 123) := by decide +kernel
theorem dX12_kindOf_124 : decode cX12_kindOf 124 = .ok (.iconst 2, 1) := by decide +kernel
theorem dX12_kindOf_125 : decode cX12_kindOf 125 = .ok (.ireturn, 1) := by decide +kernel
theorem dX12_kindOf_126 : decode cX12_kindOf 126 = .ok (.iconst 3, 1) := by decide +kernel
theorem dX12_kindOf_127 : decode cX12_kindOf 127 = .ok (.ireturn, 1) := by decide +kernel
theorem dX12_kindOf_128 : decode cX12_kindOf 128 = .ok (.iconst 4, 1) := by decide +kernel
theorem dX12_kindOf_129 : decode cX12_kindOf 129 = .ok (.ireturn, 1) := by decide +kernel
theorem dX12_kindOf_130 : decode cX12_kindOf 130 = .ok (.iconst 5, 1) := by decide +kernel
theorem dX12_kindOf_131 : decode cX12_kindOf 131 = .ok (.ireturn, 1) := by decide +kernel
theorem dX12_kindOf_132 : decode cX12_kindOf 132 = .ok (.bipush 6, 2) := by decide +kernel
theorem dX12_kindOf_134 : decode cX12_kindOf 134 = .ok (.ireturn, 1) := by decide +kernel
theorem dX12_kindOf_135 : decode cX12_kindOf 135 = .ok (.bipush 7, 2) := by decide +kernel
theorem dX12_kindOf_137 : decode cX12_kindOf 137 = .ok (.ireturn, 1) := by decide +kernel
theorem dX12_kindOf_138 : decode cX12_kindOf 138 = .ok (.bipush 8, 2) := by decide +kernel
theorem dX12_kindOf_140 : decode cX12_kindOf 140 = .ok (.ireturn, 1) := by decide +kernel
theorem dX12_kindOf_141 : decode cX12_kindOf 141 = .ok (.bipush 9, 2) := by decide +kernel
theorem dX12_kindOf_143 : decode cX12_kindOf 143 = .ok (.ireturn, 1) := by decide +kernel
theorem dX12_kindOf_144 : decode cX12_kindOf 144 = .ok (.bipush 10, 2) := by decide +kernel
theorem dX12_kindOf_146 : decode cX12_kindOf 146 = .ok (.ireturn, 1) := by decide +kernel
theorem dX12_kindOf_147 : decode cX12_kindOf 147 = .ok (.bipush 11, 2) := by decide +kernel
theorem dX12_kindOf_149 : decode cX12_kindOf 149 = .ok (.ireturn, 1) := by decide +kernel
theorem dX12_kindOf_150 : decode cX12_kindOf 150 = .ok (.bipush 12, 2) := by decide +kernel
theorem dX12_kindOf_152 : decode cX12_kindOf 152 = .ok (.ireturn, 1) := by decide +kernel
theorem dX12_kindOf_153 : decode cX12_kindOf 153 = .ok (.bipush 13, 2) := by decide +kernel
theorem dX12_kindOf_155 : decode cX12_kindOf 155 = .ok (.ireturn, 1) := by decide +kernel
theorem dX12_kindOf_156 : decode cX12_kindOf 156 = .ok (.bipush 14, 2) := by decide +kernel
theorem dX12_kindOf_158 : decode cX12_kindOf 158 = .ok (.ireturn, 1) := by decide +kernel
theorem dX12_kindOf_159 : decode cX12_kindOf 159 = .ok (.bipush 15, 2) := by decide +kernel
theorem dX12_kindOf_161 : decode cX12_kindOf 161 = .ok (.ireturn, 1) := by decide +kernel
theorem dX12_kindOf_162 : decode cX12_kindOf 162 = .ok (.bipush (-9), 2) := by decide +kernel
theorem dX12_kindOf_164 : decode cX12_kindOf 164 = .ok (.ireturn, 1) := by decide +kernel
theorem dX12_readArgument_0 : decode cX12_readArgument 0 = .ok (.iload_n 1, 1) := by decide +kernel
theorem dX12_readArgument_1 : decode cX12_readArgument 1 = .ok (.tableswitch 66 8 13 #[39, 66, 48, 48, 66, 57], 39) := by decide +kernel
theorem dX12_readArgument_40 : decode cX12_readArgument 40 = .ok (.aload_n 0, 1) := by decide +kernel
theorem dX12_readArgument_41 : decode cX12_readArgument 41 = .ok (.bipush 97, 2) := by decide +kernel
theorem dX12_readArgument_43 : decode cX12_readArgument 43 = .ok (.bipush 122, 2) := by decide +kernel
theorem dX12_readArgument_45 : decode cX12_readArgument 45 = .ok (.invokevirtual 104, 3) := by decide +kernel
theorem dX12_readArgument_48 : decode cX12_readArgument 48 = .ok (.ireturn, 1) := by decide +kernel
theorem dX12_readArgument_49 : decode cX12_readArgument 49 = .ok (.aload_n 0, 1) := by decide +kernel
theorem dX12_readArgument_50 : decode cX12_readArgument 50 = .ok (.bipush 65, 2) := by decide +kernel
theorem dX12_readArgument_52 : decode cX12_readArgument 52 = .ok (.bipush 70, 2) := by decide +kernel
theorem dX12_readArgument_54 : decode cX12_readArgument 54 = .ok (.invokevirtual 104, 3) := by decide +kernel
theorem dX12_readArgument_57 : decode cX12_readArgument 57 = .ok (.ireturn, 1) := by decide +kernel
theorem dX12_readArgument_58 : decode cX12_readArgument 58 = .ok (.aload_n 0, 1) := by decide +kernel
theorem dX12_readArgument_59 : decode cX12_readArgument 59 = .ok (.bipush 48, 2) := by decide +kernel
theorem dX12_readArgument_61 : decode cX12_readArgument 61 = .ok (.bipush 51, 2) := by decide +kernel
theorem dX12_readArgument_63 : decode cX12_readArgument 63 = .ok (.invokevirtual 104, 3) := by decide +kernel
theorem dX12_readArgument_66 : decode cX12_readArgument 66 = .ok (.ireturn, 1) := by decide +kernel
theorem dX12_readArgument_67 : decode cX12_readArgument 67 = .ok (.iconst 0, 1) := by decide +kernel
theorem dX12_readArgument_68 : decode cX12_readArgument 68 = .ok (.ireturn, 1) := by decide +kernel
theorem dX12_enter_0 : decode cX12_enter 0 = .ok (.aload_n 0, 1) := by decide +kernel
theorem dX12_enter_1 : decode cX12_enter 1 = .ok (.getfield 31, 3) := by decide +kernel
theorem dX12_enter_4 : decode cX12_enter 4 = .ok (.aload_n 0, 1) := by decide +kernel
theorem dX12_enter_5 : decode cX12_enter 5 = .ok (.getfield 108, 3) := by decide +kernel
theorem dX12_enter_8 : decode cX12_enter 8 = .ok (.iload_n 1, 1) := by decide +kernel
theorem dX12_enter_9 : decode cX12_enter 9 = .ok (.iastore, 1) := by decide +kernel
theorem dX12_enter_10 : decode cX12_enter 10 = .ok (.aload_n 0, 1) := by decide +kernel
theorem dX12_enter_11 : decode cX12_enter 11 = .ok (.getfield 34, 3) := by decide +kernel
theorem dX12_enter_14 : decode cX12_enter 14 = .ok (.aload_n 0, 1) := by decide +kernel
theorem dX12_enter_15 : decode cX12_enter 15 = .ok (.getfield 108, 3) := by decide +kernel
theorem dX12_enter_18 : decode cX12_enter 18 = .ok (.iconst 0, 1) := by decide +kernel
theorem dX12_enter_19 : decode cX12_enter 19 = .ok (.iastore, 1) := by decide +kernel
theorem dX12_enter_20 : decode cX12_enter 20 = .ok (.aload_n 0, 1) := by decide +kernel
theorem dX12_enter_21 : decode cX12_enter 21 = .ok (.getfield 37, 3) := by decide +kernel
theorem dX12_enter_24 : decode cX12_enter 24 = .ok (.aload_n 0, 1) := by decide +kernel
theorem dX12_enter_25 : decode cX12_enter 25 = .ok (.getfield 108, 3) := by decide +kernel
theorem dX12_enter_28 : decode cX12_enter 28 = .ok (.iload_n 2, 1) := by decide +kernel
theorem dX12_enter_29 : decode cX12_enter 29 = .ok (.iastore, 1) := by decide +kernel
theorem dX12_enter_30 : decode cX12_enter 30 = .ok (.aload_n 0, 1) := by decide +kernel
theorem dX12_enter_31 : decode cX12_enter 31 = .ok (.getfield 40, 3) := by decide +kernel
theorem dX12_enter_34 : decode cX12_enter 34 = .ok (.aload_n 0, 1) := by decide +kernel
theorem dX12_enter_35 : decode cX12_enter 35 = .ok (.getfield 108, 3) := by decide +kernel
theorem dX12_enter_38 : decode cX12_enter 38 = .ok (.iload_n 3, 1) := by decide +kernel
theorem dX12_enter_39 : decode cX12_enter 39 = .ok (.iastore, 1) := by decide +kernel
theorem dX12_enter_40 : decode cX12_enter 40 = .ok (.aload_n 0, 1) := by decide +kernel
theorem dX12_enter_41 : decode cX12_enter 41 = .ok (.dup, 1) := by decide +kernel
theorem dX12_enter_42 : decode cX12_enter 42 = .ok (.getfield 108, 3) := by decide +kernel
theorem dX12_enter_45 : decode cX12_enter 45 = .ok (.iconst 1, 1) := by decide +kernel
theorem dX12_enter_46 : decode cX12_enter 46 = .ok (.iadd, 1) := by decide +kernel
theorem dX12_enter_47 : decode cX12_enter 47 = .ok (.putfield 108, 3) := by decide +kernel
theorem dX12_enter_50 : decode cX12_enter 50 = .ok (.return_, 1) := by decide +kernel
theorem dX12_beginsWhole_0 : decode cX12_beginsWhole 0 = .ok (.aload_n 0, 1) := by decide +kernel
theorem dX12_beginsWhole_1 : decode cX12_beginsWhole 1 = .ok (.invokevirtual 94, 3) := by decide +kernel
theorem dX12_beginsWhole_4 : decode cX12_beginsWhole 4 = .ok (.aload_n 0, 1) := by decide +kernel
theorem dX12_beginsWhole_5 : decode cX12_beginsWhole 5 = .ok (.invokevirtual 97, 3) := by decide +kernel
theorem dX12_beginsWhole_8 : decode cX12_beginsWhole 8 = .ok (.istore_n 3, 1) := by decide +kernel
theorem dX12_beginsWhole_9 : decode cX12_beginsWhole 9 = .ok (.iload_n 3, 1) := by decide +kernel
theorem dX12_beginsWhole_10 : decode cX12_beginsWhole 10 = .ok (.bipush 48, 2) := by decide +kernel
theorem dX12_beginsWhole_12 : decode cX12_beginsWhole 12 = .ok (.bipush 57, 2) := by decide +kernel
theorem dX12_beginsWhole_14 : decode cX12_beginsWhole 14 = .ok (.invokestatic 74, 3) := by decide +kernel
theorem dX12_beginsWhole_17 : decode cX12_beginsWhole 17 = .ok (.ifCond .eq 18, 3) := by decide +kernel
theorem dX12_beginsWhole_20 : decode cX12_beginsWhole 20 = .ok (.aload_n 0, 1) := by decide +kernel
theorem dX12_beginsWhole_21 : decode cX12_beginsWhole 21 = .ok (.aload_n 0, 1) := by decide +kernel
theorem dX12_beginsWhole_22 : decode cX12_beginsWhole 22 = .ok (.iconst 0, 1) := by decide +kernel
theorem dX12_beginsWhole_23 : decode cX12_beginsWhole 23 = .ok (.aload_n 0, 1) := by decide +kernel
theorem dX12_beginsWhole_24 : decode cX12_beginsWhole 24 = .ok (.invokevirtual 111, 3) := by decide +kernel
theorem dX12_beginsWhole_27 : decode cX12_beginsWhole 27 = .ok (.invokevirtual 114, 3) := by decide +kernel
theorem dX12_beginsWhole_30 : decode cX12_beginsWhole 30 = .ok (.putfield 117, 3) := by decide +kernel
theorem dX12_beginsWhole_33 : decode cX12_beginsWhole 33 = .ok (.iconst 1, 1) := by decide +kernel
theorem dX12_beginsWhole_34 : decode cX12_beginsWhole 34 = .ok (.ireturn, 1) := by decide +kernel
theorem dX12_beginsWhole_35 : decode cX12_beginsWhole 35 = .ok (.iload_n 3, 1) := by decide +kernel
theorem dX12_beginsWhole_36 : decode cX12_beginsWhole 36 = .ok (.bipush 97, 2) := by decide +kernel
theorem dX12_beginsWhole_38 : decode cX12_beginsWhole 38 = .ok (.bipush 122, 2) := by decide +kernel
theorem dX12_beginsWhole_40 : decode cX12_beginsWhole 40 = .ok (.invokestatic 74, 3) := by decide +kernel
theorem dX12_beginsWhole_43 : decode cX12_beginsWhole 43 = .ok (.ifCond .eq 40, 3) := by decide +kernel
theorem dX12_beginsWhole_46 : decode cX12_beginsWhole 46 = .ok (.iload_n 1, 1) := by decide +kernel
theorem dX12_beginsWhole_47 : decode cX12_beginsWhole 47 = .ok (.iload_n 3, 1) := by decide +kernel
theorem dX12_beginsWhole_48 : decode cX12_beginsWhole 48 = .ok (.bipush 97, 2) := by decide +kernel
theorem dX12_beginsWhole_50 : decode cX12_beginsWhole 50 = .ok (.isub, 1) := by decide +kernel
theorem dX12_beginsWhole_51 : decode cX12_beginsWhole 51 = .ok (.ishr, 1) := by decide +kernel
theorem dX12_beginsWhole_52 : decode cX12_beginsWhole 52 = .ok (.iconst 1, 1) := by decide +kernel
theorem dX12_beginsWhole_53 : decode cX12_beginsWhole 53 = .ok (.iand, 1) := by decide +kernel
theorem dX12_beginsWhole_54 : decode cX12_beginsWhole 54 = .ok (.iconst 1, 1) := by decide +kernel
theorem dX12_beginsWhole_55 : decode cX12_beginsWhole 55 = .ok (.if_icmp .ne 28, 3) := by decide +kernel
theorem dX12_beginsWhole_58 : decode cX12_beginsWhole 58 = .ok (.aload_n 0, 1) := by decide +kernel
theorem dX12_beginsWhole_59 : decode cX12_beginsWhole 59 = .ok (.dup, 1) := by decide +kernel
theorem dX12_beginsWhole_60 : decode cX12_beginsWhole 60 = .ok (.getfield 82, 3) := by decide +kernel
theorem dX12_beginsWhole_63 : decode cX12_beginsWhole 63 = .ok (.iconst 1, 1) := by decide +kernel
theorem dX12_beginsWhole_64 : decode cX12_beginsWhole 64 = .ok (.iadd, 1) := by decide +kernel
theorem dX12_beginsWhole_65 : decode cX12_beginsWhole 65 = .ok (.putfield 82, 3) := by decide +kernel
theorem dX12_beginsWhole_68 : decode cX12_beginsWhole 68 = .ok (.aload_n 0, 1) := by decide +kernel
theorem dX12_beginsWhole_69 : decode cX12_beginsWhole 69 = .ok (.aload_n 0, 1) := by decide +kernel
theorem dX12_beginsWhole_70 : decode cX12_beginsWhole 70 = .ok (.iconst 1, 1) := by decide +kernel
theorem dX12_beginsWhole_71 : decode cX12_beginsWhole 71 = .ok (.iload_n 3, 1) := by decide +kernel
theorem dX12_beginsWhole_72 : decode cX12_beginsWhole 72 = .ok (.bipush 97, 2) := by decide +kernel
theorem dX12_beginsWhole_74 : decode cX12_beginsWhole 74 = .ok (.isub, 1) := by decide +kernel
theorem dX12_beginsWhole_75 : decode cX12_beginsWhole 75 = .ok (.invokevirtual 114, 3) := by decide +kernel
theorem dX12_beginsWhole_78 : decode cX12_beginsWhole 78 = .ok (.putfield 117, 3) := by decide +kernel
theorem dX12_beginsWhole_81 : decode cX12_beginsWhole 81 = .ok (.iconst 1, 1) := by decide +kernel
theorem dX12_beginsWhole_82 : decode cX12_beginsWhole 82 = .ok (.ireturn, 1) := by decide +kernel
theorem dX12_beginsWhole_83 : decode cX12_beginsWhole 83 = .ok (.iload_n 3, 1) := by decide +kernel
theorem dX12_beginsWhole_84 : decode cX12_beginsWhole 84 = .ok (.invokestatic 120, 3) := by decide +kernel
theorem dX12_beginsWhole_87 : decode cX12_beginsWhole 87 = .ok (.istore 4, 2) := by decide +kernel
theorem dX12_beginsWhole_89 : decode cX12_beginsWhole 89 = .ok (.iload 4, 2) := by decide +kernel
theorem dX12_beginsWhole_91 : decode cX12_beginsWhole 91 = .ok (.bipush (-9), 2) := by decide +kernel
theorem dX12_beginsWhole_93 : decode cX12_beginsWhole 93 = .ok (.if_icmp .eq 14, 3) := by decide +kernel
theorem dX12_beginsWhole_96 : decode cX12_beginsWhole 96 = .ok (.iload 4, 2) := by decide +kernel
theorem dX12_beginsWhole_98 : decode cX12_beginsWhole 98 = .ok (.bipush 14, 2) := by decide +kernel
theorem dX12_beginsWhole_100 : decode cX12_beginsWhole 100 = .ok (.if_icmp .ne 13, 3) := by decide +kernel
theorem dX12_beginsWhole_103 : decode cX12_beginsWhole 103 = .ok (.iload_n 2, 1) := by decide +kernel
theorem dX12_beginsWhole_104 : decode cX12_beginsWhole 104 = .ok (.ifCond .ne 9, 3) := by decide +kernel
theorem dX12_beginsWhole_107 : decode cX12_beginsWhole 107 = .ok (.aload_n 0, 1) := by decide +kernel
theorem dX12_beginsWhole_108 : decode cX12_beginsWhole 108 = .ok (.invokevirtual 101, 3) := by decide +kernel
theorem dX12_beginsWhole_111 : decode cX12_beginsWhole 111 = .ok (.iconst 1, 1) := by decide +kernel
theorem dX12_beginsWhole_112 : decode cX12_beginsWhole 112 = .ok (.ireturn, 1) := by decide +kernel
theorem dX12_beginsWhole_113 : decode cX12_beginsWhole 113 = .ok (.aload_n 0, 1) := by decide +kernel
theorem dX12_beginsWhole_114 : decode cX12_beginsWhole 114 = .ok (.dup, 1) := by decide +kernel
theorem dX12_beginsWhole_115 : decode cX12_beginsWhole 115 = .ok (.getfield 82, 3) := by decide +kernel
theorem dX12_beginsWhole_118 : decode cX12_beginsWhole 118 = .ok (.iconst 1, 1) := by decide +kernel
theorem dX12_beginsWhole_119 : decode cX12_beginsWhole 119 = .ok (.iadd, 1) := by decide +kernel
theorem dX12_beginsWhole_120 : decode cX12_beginsWhole 120 = .ok (.putfield 82, 3) := by decide +kernel
theorem dX12_beginsWhole_123 : decode cX12_beginsWhole 123 = .ok (.aload_n 0, 1) := by decide +kernel
theorem dX12_beginsWhole_124 : decode cX12_beginsWhole 124 = .ok (.iload 4, 2) := by decide +kernel
theorem dX12_beginsWhole_126 : decode cX12_beginsWhole 126 = .ok (.invokevirtual 124, 3) := by decide +kernel
theorem dX12_beginsWhole_129 : decode cX12_beginsWhole 129 = .ok (.istore 5, 2) := by decide +kernel
theorem dX12_beginsWhole_131 : decode cX12_beginsWhole 131 = .ok (.aload_n 0, 1) := by decide +kernel
theorem dX12_beginsWhole_132 : decode cX12_beginsWhole 132 = .ok (.getfield 85, 3) := by decide +kernel
theorem dX12_beginsWhole_135 : decode cX12_beginsWhole 135 = .ok (.bipush (-9), 2) := by decide +kernel
theorem dX12_beginsWhole_137 : decode cX12_beginsWhole 137 = .ok (.if_icmp .ne 53, 3) := by decide +kernel
theorem dX12_beginsWhole_140 : decode cX12_beginsWhole 140 = .ok (.aload_n 0, 1) := by decide +kernel
theorem dX12_beginsWhole_141 : decode cX12_beginsWhole 141 = .ok (.aload_n 0, 1) := by decide +kernel
theorem dX12_beginsWhole_142 : decode cX12_beginsWhole 142 = .ok (.iload 4, 2) := by decide +kernel
theorem dX12_beginsWhole_144 : decode cX12_beginsWhole 144 = .ok (.iload 5, 2) := by decide +kernel
theorem dX12_beginsWhole_146 : decode cX12_beginsWhole 146 = .ok (.invokevirtual 114, 3) := by decide +kernel
theorem dX12_beginsWhole_149 : decode cX12_beginsWhole 149 = .ok (.putfield 117, 3) := by decide +kernel
theorem dX12_beginsWhole_152 : decode cX12_beginsWhole 152 = .ok (.aload_n 0, 1) := by decide +kernel
theorem dX12_beginsWhole_153 : decode cX12_beginsWhole 153 = .ok (.getfield 8, 3) := by decide +kernel
theorem dX12_beginsWhole_156 : decode cX12_beginsWhole 156 = .ok (.iconst 5, 1) := by decide +kernel
theorem dX12_beginsWhole_157 : decode cX12_beginsWhole 157 = .ok (.aload_n 0, 1) := by decide +kernel
theorem dX12_beginsWhole_158 : decode cX12_beginsWhole 158 = .ok (.getfield 117, 3) := by decide +kernel
theorem dX12_beginsWhole_161 : decode cX12_beginsWhole 161 = .ok (.imul, 1) := by decide +kernel
theorem dX12_beginsWhole_162 : decode cX12_beginsWhole 162 = .ok (.iconst 4, 1) := by decide +kernel
theorem dX12_beginsWhole_163 : decode cX12_beginsWhole 163 = .ok (.iadd, 1) := by decide +kernel
theorem dX12_beginsWhole_164 : decode cX12_beginsWhole 164 = .ok (.iload 4, 2) := by decide +kernel
theorem dX12_beginsWhole_166 : decode cX12_beginsWhole 166 = .ok (.bipush 14, 2) := by decide +kernel
theorem dX12_beginsWhole_168 : decode cX12_beginsWhole 168 = .ok (.if_icmp .ne 9, 3) := by decide +kernel
theorem dX12_beginsWhole_171 : decode cX12_beginsWhole 171 = .ok (.iload_n 2, 1) := by decide +kernel
theorem dX12_beginsWhole_172 : decode cX12_beginsWhole 172 = .ok (.iconst 1, 1) := by decide +kernel
theorem dX12_beginsWhole_173 : decode cX12_beginsWhole 173 = .ok (.isub, 1) := by decide +kernel
theorem dX12_beginsWhole_174 : decode cX12_beginsWhole 174 = .ok (.goto 5, 3) := by decide +kernel
theorem dX12_beginsWhole_177 : decode cX12_beginsWhole 177 = .ok (.bipush (-9), 2) := by decide +kernel
theorem dX12_beginsWhole_179 : decode cX12_beginsWhole 179 = .ok (.iastore, 1) := by decide +kernel
theorem dX12_beginsWhole_180 : decode cX12_beginsWhole 180 = .ok (.aload_n 0, 1) := by decide +kernel
theorem dX12_beginsWhole_181 : decode cX12_beginsWhole 181 = .ok (.aload_n 0, 1) := by decide +kernel
theorem dX12_beginsWhole_182 : decode cX12_beginsWhole 182 = .ok (.getfield 117, 3) := by decide +kernel
theorem dX12_beginsWhole_185 : decode cX12_beginsWhole 185 = .ok (.iload_n 1, 1) := by decide +kernel
theorem dX12_beginsWhole_186 : decode cX12_beginsWhole 186 = .ok (.iload_n 2, 1) := by decide +kernel
theorem dX12_beginsWhole_187 : decode cX12_beginsWhole 187 = .ok (.invokevirtual 127, 3) := by decide +kernel
theorem dX12_beginsWhole_190 : decode cX12_beginsWhole 190 = .ok (.iconst 0, 1) := by decide +kernel
theorem dX12_beginsWhole_191 : decode cX12_beginsWhole 191 = .ok (.ireturn, 1) := by decide +kernel
theorem dX12_parts_0 : decode cX12_parts 0 = .ok (.iload_n 0, 1) := by decide +kernel
theorem dX12_parts_1 : decode cX12_parts 1 = .ok (.bipush 6, 2) := by decide +kernel
theorem dX12_parts_3 : decode cX12_parts 3 = .ok (.if_icmp .ne 7, 3) := by decide +kernel
theorem dX12_parts_6 : decode cX12_parts 6 = .ok (.iconst 3, 1) := by decide +kernel
theorem dX12_parts_7 : decode cX12_parts 7 = .ok (.goto 20, 3) := by decide +kernel
theorem dX12_parts_10 : decode cX12_parts 10 = .ok (.iload_n 0, 1) := by decide +kernel
theorem dX12_parts_11 : decode cX12_parts 11 = .ok (.bipush 9, 2) := by decide +kernel
theorem dX12_parts_13 : decode cX12_parts 13 = .ok (.if_icmp .lt 9, 3) := by decide +kernel
theorem dX12_parts_16 : decode cX12_parts 16 = .ok (.iload_n 0, 1) := by decide +kernel
theorem dX12_parts_17 : decode cX12_parts 17 = .ok (.bipush 12, 2) := by decide +kernel
theorem dX12_parts_19 : decode cX12_parts 19 = .ok (.if_icmp .ne 7, 3) := by decide +kernel
theorem dX12_parts_22 : decode cX12_parts 22 = .ok (.iconst 2, 1) := by decide +kernel
theorem dX12_parts_23 : decode cX12_parts 23 = .ok (.goto 4, 3) := by decide +kernel
theorem dX12_parts_26 : decode cX12_parts 26 = .ok (.iconst 1, 1) := by decide +kernel
theorem dX12_parts_27 : decode cX12_parts 27 = .ok (.ireturn, 1) := by decide +kernel
theorem dX12_clause_0 : decode cX12_clause 0 = .ok (.aload_n 0, 1) := by decide +kernel
theorem dX12_clause_1 : decode cX12_clause 1 = .ok (.getfield 8, 3) := by decide +kernel
theorem dX12_clause_4 : decode cX12_clause 4 = .ok (.iconst 5, 1) := by decide +kernel
theorem dX12_clause_5 : decode cX12_clause 5 = .ok (.iload_n 1, 1) := by decide +kernel
theorem dX12_clause_6 : decode cX12_clause 6 = .ok (.imul, 1) := by decide +kernel
theorem dX12_clause_7 : decode cX12_clause 7 = .ok (.iconst 3, 1) := by decide +kernel
theorem dX12_clause_8 : decode cX12_clause 8 = .ok (.iadd, 1) := by decide +kernel
theorem dX12_clause_9 : decode cX12_clause 9 = .ok (.iaload, 1) := by decide +kernel
theorem dX12_clause_10 : decode cX12_clause 10 = .ok (.istore_n 3, 1) := by decide +kernel
theorem dX12_clause_11 : decode cX12_clause 11 = .ok (.iload_n 3, 1) := by decide +kernel
theorem dX12_clause_12 : decode cX12_clause 12 = .ok (.bipush (-9), 2) := by decide +kernel
theorem dX12_clause_14 : decode cX12_clause 14 = .ok (.if_icmp .eq 31, 3) := by decide +kernel
theorem dX12_clause_17 : decode cX12_clause 17 = .ok (.aload_n 0, 1) := by decide +kernel
theorem dX12_clause_18 : decode cX12_clause 18 = .ok (.getfield 8, 3) := by decide +kernel
theorem dX12_clause_21 : decode cX12_clause 21 = .ok (.iconst 5, 1) := by decide +kernel
theorem dX12_clause_22 : decode cX12_clause 22 = .ok (.iload_n 3, 1) := by decide +kernel
theorem dX12_clause_23 : decode cX12_clause 23 = .ok (.imul, 1) := by decide +kernel
theorem dX12_clause_24 : decode cX12_clause 24 = .ok (.iconst 4, 1) := by decide +kernel
theorem dX12_clause_25 : decode cX12_clause 25 = .ok (.iadd, 1) := by decide +kernel
theorem dX12_clause_26 : decode cX12_clause 26 = .ok (.iaload, 1) := by decide +kernel
theorem dX12_clause_27 : decode cX12_clause 27 = .ok (.iload_n 2, 1) := by decide +kernel
theorem dX12_clause_28 : decode cX12_clause 28 = .ok (.if_icmp .eq 17, 3) := by decide +kernel
theorem dX12_clause_31 : decode cX12_clause 31 = .ok (.aload_n 0, 1) := by decide +kernel
theorem dX12_clause_32 : decode cX12_clause 32 = .ok (.getfield 8, 3) := by decide +kernel
theorem dX12_clause_35 : decode cX12_clause 35 = .ok (.iconst 5, 1) := by decide +kernel
theorem dX12_clause_36 : decode cX12_clause 36 = .ok (.iload_n 3, 1) := by decide +kernel
theorem dX12_clause_37 : decode cX12_clause 37 = .ok (.imul, 1) := by decide +kernel
theorem dX12_clause_38 : decode cX12_clause 38 = .ok (.iconst 3, 1) := by decide +kernel
theorem dX12_clause_39 : decode cX12_clause 39 = .ok (.iadd, 1) := by decide +kernel
theorem dX12_clause_40 : decode cX12_clause 40 = .ok (.iaload, 1) := by decide +kernel
theorem dX12_clause_41 : decode cX12_clause 41 = .ok (.istore_n 3, 1) := by decide +kernel
theorem dX12_clause_42 : decode cX12_clause 42 = .ok (.goto (-31), 3) := by decide +kernel
theorem dX12_clause_45 : decode cX12_clause 45 = .ok (.iload_n 3, 1) := by decide +kernel
theorem dX12_clause_46 : decode cX12_clause 46 = .ok (.ireturn, 1) := by decide +kernel
theorem dX12_beginClause_0 : decode cX12_beginClause 0 = .ok (.aload_n 0, 1) := by decide +kernel
theorem dX12_beginClause_1 : decode cX12_beginClause 1 = .ok (.invokevirtual 97, 3) := by decide +kernel
theorem dX12_beginClause_4 : decode cX12_beginClause 4 = .ok (.bipush 58, 2) := by decide +kernel
theorem dX12_beginClause_6 : decode cX12_beginClause 6 = .ok (.if_icmp .ne 7, 3) := by decide +kernel
theorem dX12_beginClause_9 : decode cX12_beginClause 9 = .ok (.iconst 1, 1) := by decide +kernel
theorem dX12_beginClause_10 : decode cX12_beginClause 10 = .ok (.goto 4, 3) := by decide +kernel
theorem dX12_beginClause_13 : decode cX12_beginClause 13 = .ok (.iconst 0, 1) := by decide +kernel
theorem dX12_beginClause_14 : decode cX12_beginClause 14 = .ok (.istore_n 2, 1) := by decide +kernel
theorem dX12_beginClause_15 : decode cX12_beginClause 15 = .ok (.iload_n 2, 1) := by decide +kernel
theorem dX12_beginClause_16 : decode cX12_beginClause 16 = .ok (.ifCond .eq 8, 3) := by decide +kernel
theorem dX12_beginClause_19 : decode cX12_beginClause 19 = .ok (.bipush 6, 2) := by decide +kernel
theorem dX12_beginClause_21 : decode cX12_beginClause 21 = .ok (.goto 10, 3) := by decide +kernel
theorem dX12_beginClause_24 : decode cX12_beginClause 24 = .ok (.aload_n 0, 1) := by decide +kernel
theorem dX12_beginClause_25 : decode cX12_beginClause 25 = .ok (.invokevirtual 97, 3) := by decide +kernel
theorem dX12_beginClause_28 : decode cX12_beginClause 28 = .ok (.bipush 65, 2) := by decide +kernel
theorem dX12_beginClause_30 : decode cX12_beginClause 30 = .ok (.isub, 1) := by decide +kernel
theorem dX12_beginClause_31 : decode cX12_beginClause 31 = .ok (.istore_n 3, 1) := by decide +kernel
theorem dX12_beginClause_32 : decode cX12_beginClause 32 = .ok (.iload_n 2, 1) := by decide +kernel
theorem dX12_beginClause_33 : decode cX12_beginClause 33 = .ok (.ifCond .ne 12, 3) := by decide +kernel
theorem dX12_beginClause_36 : decode cX12_beginClause 36 = .ok (.iload_n 3, 1) := by decide +kernel
theorem dX12_beginClause_37 : decode cX12_beginClause 37 = .ok (.iconst 0, 1) := by decide +kernel
theorem dX12_beginClause_38 : decode cX12_beginClause 38 = .ok (.iconst 5, 1) := by decide +kernel
theorem dX12_beginClause_39 : decode cX12_beginClause 39 = .ok (.invokestatic 74, 3) := by decide +kernel
theorem dX12_beginClause_42 : decode cX12_beginClause 42 = .ok (.ifCond .eq 14, 3) := by decide +kernel
theorem dX12_beginClause_45 : decode cX12_beginClause 45 = .ok (.aload_n 0, 1) := by decide +kernel
theorem dX12_beginClause_46 : decode cX12_beginClause 46 = .ok (.iload_n 1, 1) := by decide +kernel
theorem dX12_beginClause_47 : decode cX12_beginClause 47 = .ok (.iload_n 3, 1) := by decide +kernel
theorem dX12_beginClause_48 : decode cX12_beginClause 48 = .ok (.invokevirtual 131, 3) := by decide +kernel
theorem dX12_beginClause_51 : decode cX12_beginClause 51 = .ok (.bipush (-9), 2) := by decide +kernel
theorem dX12_beginClause_53 : decode cX12_beginClause 53 = .ok (.if_icmp .eq 8, 3) := by decide +kernel
theorem dX12_beginClause_56 : decode cX12_beginClause 56 = .ok (.aload_n 0, 1) := by decide +kernel
theorem dX12_beginClause_57 : decode cX12_beginClause 57 = .ok (.invokevirtual 101, 3) := by decide +kernel
theorem dX12_beginClause_60 : decode cX12_beginClause 60 = .ok (.return_, 1) := by decide +kernel
theorem dX12_beginClause_61 : decode cX12_beginClause 61 = .ok (.aload_n 0, 1) := by decide +kernel
theorem dX12_beginClause_62 : decode cX12_beginClause 62 = .ok (.dup, 1) := by decide +kernel
theorem dX12_beginClause_63 : decode cX12_beginClause 63 = .ok (.getfield 82, 3) := by decide +kernel
theorem dX12_beginClause_66 : decode cX12_beginClause 66 = .ok (.iconst 1, 1) := by decide +kernel
theorem dX12_beginClause_67 : decode cX12_beginClause 67 = .ok (.iadd, 1) := by decide +kernel
theorem dX12_beginClause_68 : decode cX12_beginClause 68 = .ok (.putfield 82, 3) := by decide +kernel
theorem dX12_beginClause_71 : decode cX12_beginClause 71 = .ok (.aload_n 0, 1) := by decide +kernel
theorem dX12_beginClause_72 : decode cX12_beginClause 72 = .ok (.bipush 97, 2) := by decide +kernel
theorem dX12_beginClause_74 : decode cX12_beginClause 74 = .ok (.bipush 122, 2) := by decide +kernel
theorem dX12_beginClause_76 : decode cX12_beginClause 76 = .ok (.invokevirtual 104, 3) := by decide +kernel
theorem dX12_beginClause_79 : decode cX12_beginClause 79 = .ok (.istore 4, 2) := by decide +kernel
theorem dX12_beginClause_81 : decode cX12_beginClause 81 = .ok (.aload_n 0, 1) := by decide +kernel
theorem dX12_beginClause_82 : decode cX12_beginClause 82 = .ok (.getfield 85, 3) := by decide +kernel
theorem dX12_beginClause_85 : decode cX12_beginClause 85 = .ok (.bipush (-9), 2) := by decide +kernel
theorem dX12_beginClause_87 : decode cX12_beginClause 87 = .ok (.if_icmp .ne 101, 3) := by decide +kernel
theorem dX12_beginClause_90 : decode cX12_beginClause 90 = .ok (.aload_n 0, 1) := by decide +kernel
theorem dX12_beginClause_91 : decode cX12_beginClause 91 = .ok (.bipush 16, 2) := by decide +kernel
theorem dX12_beginClause_93 : decode cX12_beginClause 93 = .ok (.iload 4, 2) := by decide +kernel
theorem dX12_beginClause_95 : decode cX12_beginClause 95 = .ok (.invokevirtual 114, 3) := by decide +kernel
theorem dX12_beginClause_98 : decode cX12_beginClause 98 = .ok (.istore 5, 2) := by decide +kernel
theorem dX12_beginClause_100 : decode cX12_beginClause 100 = .ok (.aload_n 0, 1) := by decide +kernel
theorem dX12_beginClause_101 : decode cX12_beginClause 101 = .ok (.getfield 8, 3) := by decide +kernel
theorem dX12_beginClause_104 : decode cX12_beginClause 104 = .ok (.iconst 5, 1) := by decide +kernel
theorem dX12_beginClause_105 : decode cX12_beginClause 105 = .ok (.iload 5, 2) := by decide +kernel
theorem dX12_beginClause_107 : decode cX12_beginClause 107 = .ok (.imul, 1) := by decide +kernel
theorem dX12_beginClause_108 : decode cX12_beginClause 108 = .ok (.iconst 3, 1) := by decide +kernel
theorem dX12_beginClause_109 : decode cX12_beginClause 109 = .ok (.iadd, 1) := by decide +kernel
theorem dX12_beginClause_110 : decode cX12_beginClause 110 = .ok (.aload_n 0, 1) := by decide +kernel
theorem dX12_beginClause_111 : decode cX12_beginClause 111 = .ok (.getfield 8, 3) := by decide +kernel
theorem dX12_beginClause_114 : decode cX12_beginClause 114 = .ok (.iconst 5, 1) := by decide +kernel
theorem dX12_beginClause_115 : decode cX12_beginClause 115 = .ok (.iload_n 1, 1) := by decide +kernel
theorem dX12_beginClause_116 : decode cX12_beginClause 116 = .ok (.imul, 1) := by decide +kernel
theorem dX12_beginClause_117 : decode cX12_beginClause 117 = .ok (.iconst 3, 1) := by decide +kernel
theorem dX12_beginClause_118 : decode cX12_beginClause 118 = .ok (.iadd, 1) := by decide +kernel
theorem dX12_beginClause_119 : decode cX12_beginClause 119 = .ok (.iaload, 1) := by decide +kernel
theorem dX12_beginClause_120 : decode cX12_beginClause 120 = .ok (.iastore, 1) := by decide +kernel
theorem dX12_beginClause_121 : decode cX12_beginClause 121 = .ok (.aload_n 0, 1) := by decide +kernel
theorem dX12_beginClause_122 : decode cX12_beginClause 122 = .ok (.getfield 8, 3) := by decide +kernel
theorem dX12_beginClause_125 : decode cX12_beginClause 125 = .ok (.iconst 5, 1) := by decide +kernel
theorem dX12_beginClause_126 : decode cX12_beginClause 126 = .ok (.iload 5, 2) := by decide +kernel
theorem dX12_beginClause_128 : decode cX12_beginClause 128 = .ok (.imul, 1) := by decide +kernel
theorem dX12_beginClause_129 : decode cX12_beginClause 129 = .ok (.iconst 4, 1) := by decide +kernel
theorem dX12_beginClause_130 : decode cX12_beginClause 130 = .ok (.iadd, 1) := by decide +kernel
theorem dX12_beginClause_131 : decode cX12_beginClause 131 = .ok (.iload_n 3, 1) := by decide +kernel
theorem dX12_beginClause_132 : decode cX12_beginClause 132 = .ok (.iastore, 1) := by decide +kernel
theorem dX12_beginClause_133 : decode cX12_beginClause 133 = .ok (.aload_n 0, 1) := by decide +kernel
theorem dX12_beginClause_134 : decode cX12_beginClause 134 = .ok (.getfield 8, 3) := by decide +kernel
theorem dX12_beginClause_137 : decode cX12_beginClause 137 = .ok (.iconst 5, 1) := by decide +kernel
theorem dX12_beginClause_138 : decode cX12_beginClause 138 = .ok (.iload_n 1, 1) := by decide +kernel
theorem dX12_beginClause_139 : decode cX12_beginClause 139 = .ok (.imul, 1) := by decide +kernel
theorem dX12_beginClause_140 : decode cX12_beginClause 140 = .ok (.iconst 3, 1) := by decide +kernel
theorem dX12_beginClause_141 : decode cX12_beginClause 141 = .ok (.iadd, 1) := by decide +kernel
theorem dX12_beginClause_142 : decode cX12_beginClause 142 = .ok (.iload 5, 2) := by decide +kernel
theorem dX12_beginClause_144 : decode cX12_beginClause 144 = .ok (.iastore, 1) := by decide +kernel
theorem dX12_beginClause_145 : decode cX12_beginClause 145 = .ok (.aload_n 0, 1) := by decide +kernel
theorem dX12_beginClause_146 : decode cX12_beginClause 146 = .ok (.iload 5, 2) := by decide +kernel
theorem dX12_beginClause_148 : decode cX12_beginClause 148 = .ok (.aload_n 0, 1) := by decide +kernel
theorem dX12_beginClause_149 : decode cX12_beginClause 149 = .ok (.getfield 37, 3) := by decide +kernel
theorem dX12_beginClause_152 : decode cX12_beginClause 152 = .ok (.aload_n 0, 1) := by decide +kernel
theorem dX12_beginClause_153 : decode cX12_beginClause 153 = .ok (.getfield 108, 3) := by decide +kernel
theorem dX12_beginClause_156 : decode cX12_beginClause 156 = .ok (.iconst 1, 1) := by decide +kernel
theorem dX12_beginClause_157 : decode cX12_beginClause 157 = .ok (.isub, 1) := by decide +kernel
theorem dX12_beginClause_158 : decode cX12_beginClause 158 = .ok (.iaload, 1) := by decide +kernel
theorem dX12_beginClause_159 : decode cX12_beginClause 159 = .ok (.iconst 1, 1) := by decide +kernel
theorem dX12_beginClause_160 : decode cX12_beginClause 160 = .ok (.iload 4, 2) := by decide +kernel
theorem dX12_beginClause_162 : decode cX12_beginClause 162 = .ok (.ishl, 1) := by decide +kernel
theorem dX12_beginClause_163 : decode cX12_beginClause 163 = .ok (.ior, 1) := by decide +kernel
theorem dX12_beginClause_164 : decode cX12_beginClause 164 = .ok (.iload_n 2, 1) := by decide +kernel
theorem dX12_beginClause_165 : decode cX12_beginClause 165 = .ok (.ifCond .eq 17, 3) := by decide +kernel
theorem dX12_beginClause_168 : decode cX12_beginClause 168 = .ok (.aload_n 0, 1) := by decide +kernel
theorem dX12_beginClause_169 : decode cX12_beginClause 169 = .ok (.getfield 40, 3) := by decide +kernel
theorem dX12_beginClause_172 : decode cX12_beginClause 172 = .ok (.aload_n 0, 1) := by decide +kernel
theorem dX12_beginClause_173 : decode cX12_beginClause 173 = .ok (.getfield 108, 3) := by decide +kernel
theorem dX12_beginClause_176 : decode cX12_beginClause 176 = .ok (.iconst 1, 1) := by decide +kernel
theorem dX12_beginClause_177 : decode cX12_beginClause 177 = .ok (.isub, 1) := by decide +kernel
theorem dX12_beginClause_178 : decode cX12_beginClause 178 = .ok (.iaload, 1) := by decide +kernel
theorem dX12_beginClause_179 : decode cX12_beginClause 179 = .ok (.goto 6, 3) := by decide +kernel
theorem dX12_beginClause_182 : decode cX12_beginClause 182 = .ok (.iload_n 1, 1) := by decide +kernel
theorem dX12_beginClause_183 : decode cX12_beginClause 183 = .ok (.iconst 1, 1) := by decide +kernel
theorem dX12_beginClause_184 : decode cX12_beginClause 184 = .ok (.iadd, 1) := by decide +kernel
theorem dX12_beginClause_185 : decode cX12_beginClause 185 = .ok (.invokevirtual 127, 3) := by decide +kernel
theorem dX12_beginClause_188 : decode cX12_beginClause 188 = .ok (.return_, 1) := by decide +kernel
theorem dX12_boundNext_0 : decode cX12_boundNext 0 = .ok (.aload_n 0, 1) := by decide +kernel
theorem dX12_boundNext_1 : decode cX12_boundNext 1 = .ok (.getfield 31, 3) := by decide +kernel
theorem dX12_boundNext_4 : decode cX12_boundNext 4 = .ok (.aload_n 0, 1) := by decide +kernel
theorem dX12_boundNext_5 : decode cX12_boundNext 5 = .ok (.getfield 108, 3) := by decide +kernel
theorem dX12_boundNext_8 : decode cX12_boundNext 8 = .ok (.iconst 1, 1) := by decide +kernel
theorem dX12_boundNext_9 : decode cX12_boundNext 9 = .ok (.isub, 1) := by decide +kernel
theorem dX12_boundNext_10 : decode cX12_boundNext 10 = .ok (.iaload, 1) := by decide +kernel
theorem dX12_boundNext_11 : decode cX12_boundNext 11 = .ok (.istore_n 1, 1) := by decide +kernel
theorem dX12_boundNext_12 : decode cX12_boundNext 12 = .ok (.aload_n 0, 1) := by decide +kernel
theorem dX12_boundNext_13 : decode cX12_boundNext 13 = .ok (.iload_n 1, 1) := by decide +kernel
theorem dX12_boundNext_14 : decode cX12_boundNext 14 = .ok (.invokevirtual 134, 3) := by decide +kernel
theorem dX12_boundNext_17 : decode cX12_boundNext 17 = .ok (.bipush 8, 2) := by decide +kernel
theorem dX12_boundNext_19 : decode cX12_boundNext 19 = .ok (.if_icmp .ne 22, 3) := by decide +kernel
theorem dX12_boundNext_22 : decode cX12_boundNext 22 = .ok (.aload_n 0, 1) := by decide +kernel
theorem dX12_boundNext_23 : decode cX12_boundNext 23 = .ok (.getfield 34, 3) := by decide +kernel
theorem dX12_boundNext_26 : decode cX12_boundNext 26 = .ok (.aload_n 0, 1) := by decide +kernel
theorem dX12_boundNext_27 : decode cX12_boundNext 27 = .ok (.getfield 108, 3) := by decide +kernel
theorem dX12_boundNext_30 : decode cX12_boundNext 30 = .ok (.iconst 1, 1) := by decide +kernel
theorem dX12_boundNext_31 : decode cX12_boundNext 31 = .ok (.isub, 1) := by decide +kernel
theorem dX12_boundNext_32 : decode cX12_boundNext 32 = .ok (.iaload, 1) := by decide +kernel
theorem dX12_boundNext_33 : decode cX12_boundNext 33 = .ok (.iconst 1, 1) := by decide +kernel
theorem dX12_boundNext_34 : decode cX12_boundNext 34 = .ok (.if_icmp .ne 7, 3) := by decide +kernel
theorem dX12_boundNext_37 : decode cX12_boundNext 37 = .ok (.iconst 1, 1) := by decide +kernel
theorem dX12_boundNext_38 : decode cX12_boundNext 38 = .ok (.goto 4, 3) := by decide +kernel
theorem dX12_boundNext_41 : decode cX12_boundNext 41 = .ok (.iconst 0, 1) := by decide +kernel
theorem dX12_boundNext_42 : decode cX12_boundNext 42 = .ok (.istore_n 2, 1) := by decide +kernel
theorem dX12_boundNext_43 : decode cX12_boundNext 43 = .ok (.aload_n 0, 1) := by decide +kernel
theorem dX12_boundNext_44 : decode cX12_boundNext 44 = .ok (.getfield 37, 3) := by decide +kernel
theorem dX12_boundNext_47 : decode cX12_boundNext 47 = .ok (.aload_n 0, 1) := by decide +kernel
theorem dX12_boundNext_48 : decode cX12_boundNext 48 = .ok (.getfield 108, 3) := by decide +kernel
theorem dX12_boundNext_51 : decode cX12_boundNext 51 = .ok (.iconst 1, 1) := by decide +kernel
theorem dX12_boundNext_52 : decode cX12_boundNext 52 = .ok (.isub, 1) := by decide +kernel
theorem dX12_boundNext_53 : decode cX12_boundNext 53 = .ok (.iaload, 1) := by decide +kernel
theorem dX12_boundNext_54 : decode cX12_boundNext 54 = .ok (.iload_n 2, 1) := by decide +kernel
theorem dX12_boundNext_55 : decode cX12_boundNext 55 = .ok (.ifCond .eq 13, 3) := by decide +kernel
theorem dX12_boundNext_58 : decode cX12_boundNext 58 = .ok (.iconst 1, 1) := by decide +kernel
theorem dX12_boundNext_59 : decode cX12_boundNext 59 = .ok (.aload_n 0, 1) := by decide +kernel
theorem dX12_boundNext_60 : decode cX12_boundNext 60 = .ok (.iload_n 1, 1) := by decide +kernel
theorem dX12_boundNext_61 : decode cX12_boundNext 61 = .ok (.invokevirtual 137, 3) := by decide +kernel
theorem dX12_boundNext_64 : decode cX12_boundNext 64 = .ok (.ishl, 1) := by decide +kernel
theorem dX12_boundNext_65 : decode cX12_boundNext 65 = .ok (.goto 4, 3) := by decide +kernel
theorem dX12_boundNext_68 : decode cX12_boundNext 68 = .ok (.iconst 0, 1) := by decide +kernel
theorem dX12_boundNext_69 : decode cX12_boundNext 69 = .ok (.ior, 1) := by decide +kernel
theorem dX12_boundNext_70 : decode cX12_boundNext 70 = .ok (.ireturn, 1) := by decide +kernel
theorem dX12_attach_0 : decode cX12_attach 0 = .ok (.aload_n 0, 1) := by decide +kernel
theorem dX12_attach_1 : decode cX12_attach 1 = .ok (.getfield 31, 3) := by decide +kernel
theorem dX12_attach_4 : decode cX12_attach 4 = .ok (.aload_n 0, 1) := by decide +kernel
theorem dX12_attach_5 : decode cX12_attach 5 = .ok (.getfield 108, 3) := by decide +kernel
theorem dX12_attach_8 : decode cX12_attach 8 = .ok (.iconst 1, 1) := by decide +kernel
theorem dX12_attach_9 : decode cX12_attach 9 = .ok (.isub, 1) := by decide +kernel
theorem dX12_attach_10 : decode cX12_attach 10 = .ok (.iaload, 1) := by decide +kernel
theorem dX12_attach_11 : decode cX12_attach 11 = .ok (.istore_n 2, 1) := by decide +kernel
theorem dX12_attach_12 : decode cX12_attach 12 = .ok (.aload_n 0, 1) := by decide +kernel
theorem dX12_attach_13 : decode cX12_attach 13 = .ok (.getfield 8, 3) := by decide +kernel
theorem dX12_attach_16 : decode cX12_attach 16 = .ok (.iconst 5, 1) := by decide +kernel
theorem dX12_attach_17 : decode cX12_attach 17 = .ok (.iload_n 2, 1) := by decide +kernel
theorem dX12_attach_18 : decode cX12_attach 18 = .ok (.imul, 1) := by decide +kernel
theorem dX12_attach_19 : decode cX12_attach 19 = .ok (.iconst 2, 1) := by decide +kernel
theorem dX12_attach_20 : decode cX12_attach 20 = .ok (.iadd, 1) := by decide +kernel
theorem dX12_attach_21 : decode cX12_attach 21 = .ok (.aload_n 0, 1) := by decide +kernel
theorem dX12_attach_22 : decode cX12_attach 22 = .ok (.getfield 34, 3) := by decide +kernel
theorem dX12_attach_25 : decode cX12_attach 25 = .ok (.aload_n 0, 1) := by decide +kernel
theorem dX12_attach_26 : decode cX12_attach 26 = .ok (.getfield 108, 3) := by decide +kernel
theorem dX12_attach_29 : decode cX12_attach 29 = .ok (.iconst 1, 1) := by decide +kernel
theorem dX12_attach_30 : decode cX12_attach 30 = .ok (.isub, 1) := by decide +kernel
theorem dX12_attach_31 : decode cX12_attach 31 = .ok (.iaload, 1) := by decide +kernel
theorem dX12_attach_32 : decode cX12_attach 32 = .ok (.iadd, 1) := by decide +kernel
theorem dX12_attach_33 : decode cX12_attach 33 = .ok (.iload_n 1, 1) := by decide +kernel
theorem dX12_attach_34 : decode cX12_attach 34 = .ok (.iastore, 1) := by decide +kernel
theorem dX12_attach_35 : decode cX12_attach 35 = .ok (.aload_n 0, 1) := by decide +kernel
theorem dX12_attach_36 : decode cX12_attach 36 = .ok (.getfield 34, 3) := by decide +kernel
theorem dX12_attach_39 : decode cX12_attach 39 = .ok (.aload_n 0, 1) := by decide +kernel
theorem dX12_attach_40 : decode cX12_attach 40 = .ok (.getfield 108, 3) := by decide +kernel
theorem dX12_attach_43 : decode cX12_attach 43 = .ok (.iconst 1, 1) := by decide +kernel
theorem dX12_attach_44 : decode cX12_attach 44 = .ok (.isub, 1) := by decide +kernel
theorem dX12_attach_45 : decode cX12_attach 45 = .ok (.dup2, 1) := by decide +kernel
theorem dX12_attach_46 : decode cX12_attach 46 = .ok (.iaload, 1) := by decide +kernel
theorem dX12_attach_47 : decode cX12_attach 47 = .ok (.iconst 1, 1) := by decide +kernel
theorem dX12_attach_48 : decode cX12_attach 48 = .ok (.iadd, 1) := by decide +kernel
theorem dX12_attach_49 : decode cX12_attach 49 = .ok (.iastore, 1) := by decide +kernel
theorem dX12_attach_50 : decode cX12_attach 50 = .ok (.return_, 1) := by decide +kernel
theorem dX12_goesOn_0 : decode cX12_goesOn 0 = .ok (.aload_n 0, 1) := by decide +kernel
theorem dX12_goesOn_1 : decode cX12_goesOn 1 = .ok (.getfield 108, 3) := by decide +kernel
theorem dX12_goesOn_4 : decode cX12_goesOn 4 = .ok (.ifCond .le 149, 3) := by decide +kernel
theorem dX12_goesOn_7 : decode cX12_goesOn 7 = .ok (.aload_n 0, 1) := by decide +kernel
theorem dX12_goesOn_8 : decode cX12_goesOn 8 = .ok (.getfield 31, 3) := by decide +kernel
theorem dX12_goesOn_11 : decode cX12_goesOn 11 = .ok (.aload_n 0, 1) := by decide +kernel
theorem dX12_goesOn_12 : decode cX12_goesOn 12 = .ok (.getfield 108, 3) := by decide +kernel
theorem dX12_goesOn_15 : decode cX12_goesOn 15 = .ok (.iconst 1, 1) := by decide +kernel
theorem dX12_goesOn_16 : decode cX12_goesOn 16 = .ok (.isub, 1) := by decide +kernel
theorem dX12_goesOn_17 : decode cX12_goesOn 17 = .ok (.iaload, 1) := by decide +kernel
theorem dX12_goesOn_18 : decode cX12_goesOn 18 = .ok (.istore_n 1, 1) := by decide +kernel
theorem dX12_goesOn_19 : decode cX12_goesOn 19 = .ok (.aload_n 0, 1) := by decide +kernel
theorem dX12_goesOn_20 : decode cX12_goesOn 20 = .ok (.iload_n 1, 1) := by decide +kernel
theorem dX12_goesOn_21 : decode cX12_goesOn 21 = .ok (.invokevirtual 134, 3) := by decide +kernel
theorem dX12_goesOn_24 : decode cX12_goesOn 24 = .ok (.istore_n 2, 1) := by decide +kernel
theorem dX12_goesOn_25 : decode cX12_goesOn 25 = .ok (.iload_n 2, 1) := by decide +kernel
theorem dX12_goesOn_26 : decode cX12_goesOn 26 = .ok (.bipush 15, 2) := by decide +kernel
theorem dX12_goesOn_28 : decode cX12_goesOn 28 = .ok (.if_icmp .ne 51, 3) := by decide +kernel
theorem dX12_goesOn_31 : decode cX12_goesOn 31 = .ok (.aload_n 0, 1) := by decide +kernel
theorem dX12_goesOn_32 : decode cX12_goesOn 32 = .ok (.getfield 34, 3) := by decide +kernel
theorem dX12_goesOn_35 : decode cX12_goesOn 35 = .ok (.aload_n 0, 1) := by decide +kernel
theorem dX12_goesOn_36 : decode cX12_goesOn 36 = .ok (.getfield 108, 3) := by decide +kernel
theorem dX12_goesOn_39 : decode cX12_goesOn 39 = .ok (.iconst 1, 1) := by decide +kernel
theorem dX12_goesOn_40 : decode cX12_goesOn 40 = .ok (.isub, 1) := by decide +kernel
theorem dX12_goesOn_41 : decode cX12_goesOn 41 = .ok (.iaload, 1) := by decide +kernel
theorem dX12_goesOn_42 : decode cX12_goesOn 42 = .ok (.iconst 1, 1) := by decide +kernel
theorem dX12_goesOn_43 : decode cX12_goesOn 43 = .ok (.if_icmp .ne 36, 3) := by decide +kernel
theorem dX12_goesOn_46 : decode cX12_goesOn 46 = .ok (.aload_n 0, 1) := by decide +kernel
theorem dX12_goesOn_47 : decode cX12_goesOn 47 = .ok (.invokevirtual 94, 3) := by decide +kernel
theorem dX12_goesOn_50 : decode cX12_goesOn 50 = .ok (.aload_n 0, 1) := by decide +kernel
theorem dX12_goesOn_51 : decode cX12_goesOn 51 = .ok (.invokevirtual 97, 3) := by decide +kernel
theorem dX12_goesOn_54 : decode cX12_goesOn 54 = .ok (.bipush 125, 2) := by decide +kernel
theorem dX12_goesOn_56 : decode cX12_goesOn 56 = .ok (.if_icmp .eq 10, 3) := by decide +kernel
theorem dX12_goesOn_59 : decode cX12_goesOn 59 = .ok (.aload_n 0, 1) := by decide +kernel
theorem dX12_goesOn_60 : decode cX12_goesOn 60 = .ok (.iload_n 1, 1) := by decide +kernel
theorem dX12_goesOn_61 : decode cX12_goesOn 61 = .ok (.invokevirtual 140, 3) := by decide +kernel
theorem dX12_goesOn_64 : decode cX12_goesOn 64 = .ok (.iconst 1, 1) := by decide +kernel
theorem dX12_goesOn_65 : decode cX12_goesOn 65 = .ok (.ireturn, 1) := by decide +kernel
theorem dX12_goesOn_66 : decode cX12_goesOn 66 = .ok (.aload_n 0, 1) := by decide +kernel
theorem dX12_goesOn_67 : decode cX12_goesOn 67 = .ok (.dup, 1) := by decide +kernel
theorem dX12_goesOn_68 : decode cX12_goesOn 68 = .ok (.getfield 82, 3) := by decide +kernel
theorem dX12_goesOn_71 : decode cX12_goesOn 71 = .ok (.iconst 1, 1) := by decide +kernel
theorem dX12_goesOn_72 : decode cX12_goesOn 72 = .ok (.iadd, 1) := by decide +kernel
theorem dX12_goesOn_73 : decode cX12_goesOn 73 = .ok (.putfield 82, 3) := by decide +kernel
theorem dX12_goesOn_76 : decode cX12_goesOn 76 = .ok (.goto 46, 3) := by decide +kernel
theorem dX12_goesOn_79 : decode cX12_goesOn 79 = .ok (.iload_n 2, 1) := by decide +kernel
theorem dX12_goesOn_80 : decode cX12_goesOn 80 = .ok (.bipush 16, 2) := by decide +kernel
theorem dX12_goesOn_82 : decode cX12_goesOn 82 = .ok (.if_icmp .ne 20, 3) := by decide +kernel
theorem dX12_goesOn_85 : decode cX12_goesOn 85 = .ok (.aload_n 0, 1) := by decide +kernel
theorem dX12_goesOn_86 : decode cX12_goesOn 86 = .ok (.getfield 34, 3) := by decide +kernel
theorem dX12_goesOn_89 : decode cX12_goesOn 89 = .ok (.aload_n 0, 1) := by decide +kernel
theorem dX12_goesOn_90 : decode cX12_goesOn 90 = .ok (.getfield 108, 3) := by decide +kernel
theorem dX12_goesOn_93 : decode cX12_goesOn 93 = .ok (.iconst 1, 1) := by decide +kernel
theorem dX12_goesOn_94 : decode cX12_goesOn 94 = .ok (.isub, 1) := by decide +kernel
theorem dX12_goesOn_95 : decode cX12_goesOn 95 = .ok (.iaload, 1) := by decide +kernel
theorem dX12_goesOn_96 : decode cX12_goesOn 96 = .ok (.ifCond .ne 26, 3) := by decide +kernel
theorem dX12_goesOn_99 : decode cX12_goesOn 99 = .ok (.goto 21, 3) := by decide +kernel
theorem dX12_goesOn_102 : decode cX12_goesOn 102 = .ok (.aload_n 0, 1) := by decide +kernel
theorem dX12_goesOn_103 : decode cX12_goesOn 103 = .ok (.getfield 34, 3) := by decide +kernel
theorem dX12_goesOn_106 : decode cX12_goesOn 106 = .ok (.aload_n 0, 1) := by decide +kernel
theorem dX12_goesOn_107 : decode cX12_goesOn 107 = .ok (.getfield 108, 3) := by decide +kernel
theorem dX12_goesOn_110 : decode cX12_goesOn 110 = .ok (.iconst 1, 1) := by decide +kernel
theorem dX12_goesOn_111 : decode cX12_goesOn 111 = .ok (.isub, 1) := by decide +kernel
theorem dX12_goesOn_112 : decode cX12_goesOn 112 = .ok (.iaload, 1) := by decide +kernel
theorem dX12_goesOn_113 : decode cX12_goesOn 113 = .ok (.iload_n 2, 1) := by decide +kernel
theorem dX12_goesOn_114 : decode cX12_goesOn 114 = .ok (.invokestatic 144, 3) := by decide +kernel
theorem dX12_goesOn_117 : decode cX12_goesOn 117 = .ok (.if_icmp .ge 5, 3) := by decide +kernel
theorem dX12_goesOn_120 : decode cX12_goesOn 120 = .ok (.iconst 1, 1) := by decide +kernel
theorem dX12_goesOn_121 : decode cX12_goesOn 121 = .ok (.ireturn, 1) := by decide +kernel
theorem dX12_goesOn_122 : decode cX12_goesOn 122 = .ok (.aload_n 0, 1) := by decide +kernel
theorem dX12_goesOn_123 : decode cX12_goesOn 123 = .ok (.dup, 1) := by decide +kernel
theorem dX12_goesOn_124 : decode cX12_goesOn 124 = .ok (.getfield 108, 3) := by decide +kernel
theorem dX12_goesOn_127 : decode cX12_goesOn 127 = .ok (.iconst 1, 1) := by decide +kernel
theorem dX12_goesOn_128 : decode cX12_goesOn 128 = .ok (.isub, 1) := by decide +kernel
theorem dX12_goesOn_129 : decode cX12_goesOn 129 = .ok (.putfield 108, 3) := by decide +kernel
theorem dX12_goesOn_132 : decode cX12_goesOn 132 = .ok (.aload_n 0, 1) := by decide +kernel
theorem dX12_goesOn_133 : decode cX12_goesOn 133 = .ok (.getfield 108, 3) := by decide +kernel
theorem dX12_goesOn_136 : decode cX12_goesOn 136 = .ok (.ifCond .le 14, 3) := by decide +kernel
theorem dX12_goesOn_139 : decode cX12_goesOn 139 = .ok (.iload_n 2, 1) := by decide +kernel
theorem dX12_goesOn_140 : decode cX12_goesOn 140 = .ok (.bipush 16, 2) := by decide +kernel
theorem dX12_goesOn_142 : decode cX12_goesOn 142 = .ok (.if_icmp .eq 8, 3) := by decide +kernel
theorem dX12_goesOn_145 : decode cX12_goesOn 145 = .ok (.aload_n 0, 1) := by decide +kernel
theorem dX12_goesOn_146 : decode cX12_goesOn 146 = .ok (.iload_n 1, 1) := by decide +kernel
theorem dX12_goesOn_147 : decode cX12_goesOn 147 = .ok (.invokevirtual 147, 3) := by decide +kernel
theorem dX12_goesOn_150 : decode cX12_goesOn 150 = .ok (.goto (-150), 3) := by decide +kernel
theorem dX12_goesOn_153 : decode cX12_goesOn 153 = .ok (.iconst 0, 1) := by decide +kernel
theorem dX12_goesOn_154 : decode cX12_goesOn 154 = .ok (.ireturn, 1) := by decide +kernel
theorem dX12_parse_0 : decode cX12_parse 0 = .ok (.aload_n 0, 1) := by decide +kernel
theorem dX12_parse_1 : decode cX12_parse 1 = .ok (.iconst 0, 1) := by decide +kernel
theorem dX12_parse_2 : decode cX12_parse 2 = .ok (.putfield 82, 3) := by decide +kernel
theorem dX12_parse_5 : decode cX12_parse 5 = .ok (.aload_n 0, 1) := by decide +kernel
theorem dX12_parse_6 : decode cX12_parse 6 = .ok (.bipush (-9), 2) := by decide +kernel
theorem dX12_parse_8 : decode cX12_parse 8 = .ok (.putfield 85, 3) := by decide +kernel
theorem dX12_parse_11 : decode cX12_parse 11 = .ok (.aload_n 0, 1) := by decide +kernel
theorem dX12_parse_12 : decode cX12_parse 12 = .ok (.iconst 0, 1) := by decide +kernel
theorem dX12_parse_13 : decode cX12_parse 13 = .ok (.putfield 108, 3) := by decide +kernel
theorem dX12_parse_16 : decode cX12_parse 16 = .ok (.aload_n 0, 1) := by decide +kernel
theorem dX12_parse_17 : decode cX12_parse 17 = .ok (.iconst 0, 1) := by decide +kernel
theorem dX12_parse_18 : decode cX12_parse 18 = .ok (.putfield 91, 3) := by decide +kernel
theorem dX12_parse_21 : decode cX12_parse 21 = .ok (.aload_n 0, 1) := by decide +kernel
theorem dX12_parse_22 : decode cX12_parse 22 = .ok (.getfield 88, 3) := by decide +kernel
theorem dX12_parse_25 : decode cX12_parse 25 = .ok (.istore_n 2, 1) := by decide +kernel
theorem dX12_parse_26 : decode cX12_parse 26 = .ok (.iconst 1, 1) := by decide +kernel
theorem dX12_parse_27 : decode cX12_parse 27 = .ok (.istore_n 3, 1) := by decide +kernel
theorem dX12_parse_28 : decode cX12_parse 28 = .ok (.iload_n 3, 1) := by decide +kernel
theorem dX12_parse_29 : decode cX12_parse 29 = .ok (.ifCond .eq 106, 3) := by decide +kernel
theorem dX12_parse_32 : decode cX12_parse 32 = .ok (.aload_n 0, 1) := by decide +kernel
theorem dX12_parse_33 : decode cX12_parse 33 = .ok (.getfield 85, 3) := by decide +kernel
theorem dX12_parse_36 : decode cX12_parse 36 = .ok (.bipush (-9), 2) := by decide +kernel
theorem dX12_parse_38 : decode cX12_parse 38 = .ok (.if_icmp .ne 97, 3) := by decide +kernel
theorem dX12_parse_41 : decode cX12_parse 41 = .ok (.aload_n 0, 1) := by decide +kernel
theorem dX12_parse_42 : decode cX12_parse 42 = .ok (.getfield 108, 3) := by decide +kernel
theorem dX12_parse_45 : decode cX12_parse 45 = .ok (.ifCond .ne 17, 3) := by decide +kernel
theorem dX12_parse_48 : decode cX12_parse 48 = .ok (.iload_n 1, 1) := by decide +kernel
theorem dX12_parse_49 : decode cX12_parse 49 = .ok (.iconst 1, 1) := by decide +kernel
theorem dX12_parse_50 : decode cX12_parse 50 = .ok (.if_icmp .ne 8, 3) := by decide +kernel
theorem dX12_parse_53 : decode cX12_parse 53 = .ok (.ldc 150, 2) := by decide +kernel
theorem dX12_parse_55 : decode cX12_parse 55 = .ok (.goto 11, 3) := by decide +kernel
theorem dX12_parse_58 : decode cX12_parse 58 = .ok (.iconst 0, 1) := by decide +kernel
theorem dX12_parse_59 : decode cX12_parse 59 = .ok (.goto 7, 3) := by decide +kernel
theorem dX12_parse_62 : decode cX12_parse 62 = .ok (.aload_n 0, 1) := by decide +kernel
theorem dX12_parse_63 : decode cX12_parse 63 = .ok (.invokevirtual 151, 3) := by decide +kernel
theorem dX12_parse_66 : decode cX12_parse 66 = .ok (.istore 4, 2) := by decide +kernel
theorem dX12_parse_68 : decode cX12_parse 68 = .ok (.aload_n 0, 1) := by decide +kernel
theorem dX12_parse_69 : decode cX12_parse 69 = .ok (.iload 4, 2) := by decide +kernel
theorem dX12_parse_71 : decode cX12_parse 71 = .ok (.aload_n 0, 1) := by decide +kernel
theorem dX12_parse_72 : decode cX12_parse 72 = .ok (.getfield 108, 3) := by decide +kernel
theorem dX12_parse_75 : decode cX12_parse 75 = .ok (.ifCond .ne 7, 3) := by decide +kernel
theorem dX12_parse_78 : decode cX12_parse 78 = .ok (.iconst 0, 1) := by decide +kernel
theorem dX12_parse_79 : decode cX12_parse 79 = .ok (.goto 14, 3) := by decide +kernel
theorem dX12_parse_82 : decode cX12_parse 82 = .ok (.aload_n 0, 1) := by decide +kernel
theorem dX12_parse_83 : decode cX12_parse 83 = .ok (.getfield 40, 3) := by decide +kernel
theorem dX12_parse_86 : decode cX12_parse 86 = .ok (.aload_n 0, 1) := by decide +kernel
theorem dX12_parse_87 : decode cX12_parse 87 = .ok (.getfield 108, 3) := by decide +kernel
theorem dX12_parse_90 : decode cX12_parse 90 = .ok (.iconst 1, 1) := by decide +kernel
theorem dX12_parse_91 : decode cX12_parse 91 = .ok (.isub, 1) := by decide +kernel
theorem dX12_parse_92 : decode cX12_parse 92 = .ok (.iaload, 1) := by decide +kernel
theorem dX12_parse_93 : decode cX12_parse 93 = .ok (.invokevirtual 154, 3) := by decide +kernel
theorem dX12_parse_96 : decode cX12_parse 96 = .ok (.istore 5, 2) := by decide +kernel
theorem dX12_parse_98 : decode cX12_parse 98 = .ok (.aload_n 0, 1) := by decide +kernel
theorem dX12_parse_99 : decode cX12_parse 99 = .ok (.getfield 85, 3) := by decide +kernel
theorem dX12_parse_102 : decode cX12_parse 102 = .ok (.bipush (-9), 2) := by decide +kernel
theorem dX12_parse_104 : decode cX12_parse 104 = .ok (.if_icmp .ne 28, 3) := by decide +kernel
theorem dX12_parse_107 : decode cX12_parse 107 = .ok (.iload 5, 2) := by decide +kernel
theorem dX12_parse_109 : decode cX12_parse 109 = .ok (.ifCond .eq 23, 3) := by decide +kernel
theorem dX12_parse_112 : decode cX12_parse 112 = .ok (.aload_n 0, 1) := by decide +kernel
theorem dX12_parse_113 : decode cX12_parse 113 = .ok (.getfield 108, 3) := by decide +kernel
theorem dX12_parse_116 : decode cX12_parse 116 = .ok (.ifCond .le 11, 3) := by decide +kernel
theorem dX12_parse_119 : decode cX12_parse 119 = .ok (.aload_n 0, 1) := by decide +kernel
theorem dX12_parse_120 : decode cX12_parse 120 = .ok (.aload_n 0, 1) := by decide +kernel
theorem dX12_parse_121 : decode cX12_parse 121 = .ok (.getfield 117, 3) := by decide +kernel
theorem dX12_parse_124 : decode cX12_parse 124 = .ok (.invokevirtual 147, 3) := by decide +kernel
theorem dX12_parse_127 : decode cX12_parse 127 = .ok (.aload_n 0, 1) := by decide +kernel
theorem dX12_parse_128 : decode cX12_parse 128 = .ok (.invokevirtual 158, 3) := by decide +kernel
theorem dX12_parse_131 : decode cX12_parse 131 = .ok (.istore_n 3, 1) := by decide +kernel
theorem dX12_parse_132 : decode cX12_parse 132 = .ok (.goto (-104), 3) := by decide +kernel
theorem dX12_parse_135 : decode cX12_parse 135 = .ok (.aload_n 0, 1) := by decide +kernel
theorem dX12_parse_136 : decode cX12_parse 136 = .ok (.getfield 85, 3) := by decide +kernel
theorem dX12_parse_139 : decode cX12_parse 139 = .ok (.bipush (-9), 2) := by decide +kernel
theorem dX12_parse_141 : decode cX12_parse 141 = .ok (.if_icmp .ne 22, 3) := by decide +kernel
theorem dX12_parse_144 : decode cX12_parse 144 = .ok (.aload_n 0, 1) := by decide +kernel
theorem dX12_parse_145 : decode cX12_parse 145 = .ok (.invokevirtual 94, 3) := by decide +kernel
theorem dX12_parse_148 : decode cX12_parse 148 = .ok (.aload_n 0, 1) := by decide +kernel
theorem dX12_parse_149 : decode cX12_parse 149 = .ok (.getfield 82, 3) := by decide +kernel
theorem dX12_parse_152 : decode cX12_parse 152 = .ok (.aload_n 0, 1) := by decide +kernel
theorem dX12_parse_153 : decode cX12_parse 153 = .ok (.getfield 78, 3) := by decide +kernel
theorem dX12_parse_156 : decode cX12_parse 156 = .ok (.if_icmp .ge 7, 3) := by decide +kernel
theorem dX12_parse_159 : decode cX12_parse 159 = .ok (.aload_n 0, 1) := by decide +kernel
theorem dX12_parse_160 : decode cX12_parse 160 = .ok (.invokevirtual 101, 3) := by decide +kernel
theorem dX12_parse_163 : decode cX12_parse 163 = .ok (.aload_n 0, 1) := by decide +kernel
theorem dX12_parse_164 : decode cX12_parse 164 = .ok (.getfield 44, 3) := by decide +kernel
theorem dX12_parse_167 : decode cX12_parse 167 = .ok (.iload_n 2, 1) := by decide +kernel
theorem dX12_parse_168 : decode cX12_parse 168 = .ok (.aload_n 0, 1) := by decide +kernel
theorem dX12_parse_169 : decode cX12_parse 169 = .ok (.getfield 88, 3) := by decide +kernel
theorem dX12_parse_172 : decode cX12_parse 172 = .ok (.iastore, 1) := by decide +kernel
theorem dX12_parse_173 : decode cX12_parse 173 = .ok (.aload_n 0, 1) := by decide +kernel
theorem dX12_parse_174 : decode cX12_parse 174 = .ok (.getfield 85, 3) := by decide +kernel
theorem dX12_parse_177 : decode cX12_parse 177 = .ok (.bipush (-9), 2) := by decide +kernel
theorem dX12_parse_179 : decode cX12_parse 179 = .ok (.if_icmp .ne 7, 3) := by decide +kernel
theorem dX12_parse_182 : decode cX12_parse 182 = .ok (.iload_n 2, 1) := by decide +kernel
theorem dX12_parse_183 : decode cX12_parse 183 = .ok (.goto 5, 3) := by decide +kernel
theorem dX12_parse_186 : decode cX12_parse 186 = .ok (.bipush (-9), 2) := by decide +kernel
theorem dX12_parse_188 : decode cX12_parse 188 = .ok (.ireturn, 1) := by decide +kernel
theorem dX12_fault_0 : decode cX12_fault 0 = .ok (.iload_n 1, 1) := by decide +kernel
theorem dX12_fault_1 : decode cX12_fault 1 = .ok (.iconst 0, 1) := by decide +kernel
theorem dX12_fault_2 : decode cX12_fault 2 = .ok (.iconst 1, 1) := by decide +kernel
theorem dX12_fault_3 : decode cX12_fault 3 = .ok (.invokestatic 74, 3) := by decide +kernel
theorem dX12_fault_6 : decode cX12_fault 6 = .ok (.ifCond .ne 5, 3) := by decide +kernel
theorem dX12_fault_9 : decode cX12_fault 9 = .ok (.iconst (-1), 1) := by decide +kernel
theorem dX12_fault_10 : decode cX12_fault 10 = .ok (.ireturn, 1) := by decide +kernel
theorem dX12_fault_11 : decode cX12_fault 11 = .ok (.aload_n 0, 1) := by decide +kernel
theorem dX12_fault_12 : decode cX12_fault 12 = .ok (.getfield 88, 3) := by decide +kernel
theorem dX12_fault_15 : decode cX12_fault 15 = .ok (.istore_n 2, 1) := by decide +kernel
theorem dX12_fault_16 : decode cX12_fault 16 = .ok (.aload_n 0, 1) := by decide +kernel
theorem dX12_fault_17 : decode cX12_fault 17 = .ok (.iload_n 1, 1) := by decide +kernel
theorem dX12_fault_18 : decode cX12_fault 18 = .ok (.invokevirtual 162, 3) := by decide +kernel
theorem dX12_fault_21 : decode cX12_fault 21 = .ok (.istore_n 3, 1) := by decide +kernel
theorem dX12_fault_22 : decode cX12_fault 22 = .ok (.aload_n 0, 1) := by decide +kernel
theorem dX12_fault_23 : decode cX12_fault 23 = .ok (.iload_n 2, 1) := by decide +kernel
theorem dX12_fault_24 : decode cX12_fault 24 = .ok (.putfield 88, 3) := by decide +kernel
theorem dX12_fault_27 : decode cX12_fault 27 = .ok (.aload_n 0, 1) := by decide +kernel
theorem dX12_fault_28 : decode cX12_fault 28 = .ok (.getfield 85, 3) := by decide +kernel
theorem dX12_fault_31 : decode cX12_fault 31 = .ok (.ireturn, 1) := by decide +kernel
theorem dX12_load_0 : decode cX12_load 0 = .ok (.aload_n 0, 1) := by decide +kernel
theorem dX12_load_1 : decode cX12_load 1 = .ok (.getfield 88, 3) := by decide +kernel
theorem dX12_load_4 : decode cX12_load 4 = .ok (.istore_n 1, 1) := by decide +kernel
theorem dX12_load_5 : decode cX12_load 5 = .ok (.aload_n 0, 1) := by decide +kernel
theorem dX12_load_6 : decode cX12_load 6 = .ok (.iconst 0, 1) := by decide +kernel
theorem dX12_load_7 : decode cX12_load 7 = .ok (.invokevirtual 162, 3) := by decide +kernel
theorem dX12_load_10 : decode cX12_load 10 = .ok (.istore_n 2, 1) := by decide +kernel
theorem dX12_load_11 : decode cX12_load 11 = .ok (.iload_n 2, 1) := by decide +kernel
theorem dX12_load_12 : decode cX12_load 12 = .ok (.bipush (-9), 2) := by decide +kernel
theorem dX12_load_14 : decode cX12_load 14 = .ok (.if_icmp .ne 11, 3) := by decide +kernel
theorem dX12_load_17 : decode cX12_load 17 = .ok (.aload_n 0, 1) := by decide +kernel
theorem dX12_load_18 : decode cX12_load 18 = .ok (.iload_n 1, 1) := by decide +kernel
theorem dX12_load_19 : decode cX12_load 19 = .ok (.putfield 88, 3) := by decide +kernel
theorem dX12_load_22 : decode cX12_load 22 = .ok (.bipush (-2), 2) := by decide +kernel
theorem dX12_load_24 : decode cX12_load 24 = .ok (.ireturn, 1) := by decide +kernel
theorem dX12_load_25 : decode cX12_load 25 = .ok (.aload_n 0, 1) := by decide +kernel
theorem dX12_load_26 : decode cX12_load 26 = .ok (.getfield 14, 3) := by decide +kernel
theorem dX12_load_29 : decode cX12_load 29 = .ok (.iconst 0, 1) := by decide +kernel
theorem dX12_load_30 : decode cX12_load 30 = .ok (.iload_n 2, 1) := by decide +kernel
theorem dX12_load_31 : decode cX12_load 31 = .ok (.iastore, 1) := by decide +kernel
theorem dX12_load_32 : decode cX12_load 32 = .ok (.aload_n 0, 1) := by decide +kernel
theorem dX12_load_33 : decode cX12_load 33 = .ok (.invokevirtual 71, 3) := by decide +kernel
theorem dX12_load_36 : decode cX12_load 36 = .ok (.aload_n 0, 1) := by decide +kernel
theorem dX12_load_37 : decode cX12_load 37 = .ok (.getfield 91, 3) := by decide +kernel
theorem dX12_load_40 : decode cX12_load 40 = .ok (.ireturn, 1) := by decide +kernel
theorem dX12_define_0 : decode cX12_define 0 = .ok (.iload_n 1, 1) := by decide +kernel
theorem dX12_define_1 : decode cX12_define 1 = .ok (.iconst 0, 1) := by decide +kernel
theorem dX12_define_2 : decode cX12_define 2 = .ok (.iconst 3, 1) := by decide +kernel
theorem dX12_define_3 : decode cX12_define 3 = .ok (.invokestatic 74, 3) := by decide +kernel
theorem dX12_define_6 : decode cX12_define 6 = .ok (.ifCond .ne 5, 3) := by decide +kernel
theorem dX12_define_9 : decode cX12_define 9 = .ok (.iconst (-1), 1) := by decide +kernel
theorem dX12_define_10 : decode cX12_define 10 = .ok (.ireturn, 1) := by decide +kernel
theorem dX12_define_11 : decode cX12_define 11 = .ok (.aload_n 0, 1) := by decide +kernel
theorem dX12_define_12 : decode cX12_define 12 = .ok (.getfield 88, 3) := by decide +kernel
theorem dX12_define_15 : decode cX12_define 15 = .ok (.istore_n 2, 1) := by decide +kernel
theorem dX12_define_16 : decode cX12_define 16 = .ok (.aload_n 0, 1) := by decide +kernel
theorem dX12_define_17 : decode cX12_define 17 = .ok (.iconst 1, 1) := by decide +kernel
theorem dX12_define_18 : decode cX12_define 18 = .ok (.invokevirtual 162, 3) := by decide +kernel
theorem dX12_define_21 : decode cX12_define 21 = .ok (.istore_n 3, 1) := by decide +kernel
theorem dX12_define_22 : decode cX12_define 22 = .ok (.iload_n 3, 1) := by decide +kernel
theorem dX12_define_23 : decode cX12_define 23 = .ok (.bipush (-9), 2) := by decide +kernel
theorem dX12_define_25 : decode cX12_define 25 = .ok (.if_icmp .ne 11, 3) := by decide +kernel
theorem dX12_define_28 : decode cX12_define 28 = .ok (.aload_n 0, 1) := by decide +kernel
theorem dX12_define_29 : decode cX12_define 29 = .ok (.iload_n 2, 1) := by decide +kernel
theorem dX12_define_30 : decode cX12_define 30 = .ok (.putfield 88, 3) := by decide +kernel
theorem dX12_define_33 : decode cX12_define 33 = .ok (.bipush (-2), 2) := by decide +kernel
theorem dX12_define_35 : decode cX12_define 35 = .ok (.ireturn, 1) := by decide +kernel
theorem dX12_define_36 : decode cX12_define 36 = .ok (.aload_n 0, 1) := by decide +kernel
theorem dX12_define_37 : decode cX12_define 37 = .ok (.getfield 14, 3) := by decide +kernel
theorem dX12_define_40 : decode cX12_define 40 = .ok (.iconst 1, 1) := by decide +kernel
theorem dX12_define_41 : decode cX12_define 41 = .ok (.iload_n 1, 1) := by decide +kernel
theorem dX12_define_42 : decode cX12_define 42 = .ok (.iadd, 1) := by decide +kernel
theorem dX12_define_43 : decode cX12_define 43 = .ok (.iload_n 3, 1) := by decide +kernel
theorem dX12_define_44 : decode cX12_define 44 = .ok (.iastore, 1) := by decide +kernel
theorem dX12_define_45 : decode cX12_define 45 = .ok (.aload_n 0, 1) := by decide +kernel
theorem dX12_define_46 : decode cX12_define 46 = .ok (.getfield 91, 3) := by decide +kernel
theorem dX12_define_49 : decode cX12_define 49 = .ok (.ireturn, 1) := by decide +kernel
theorem dX12_undefine_0 : decode cX12_undefine 0 = .ok (.iload_n 1, 1) := by decide +kernel
theorem dX12_undefine_1 : decode cX12_undefine 1 = .ok (.iconst 0, 1) := by decide +kernel
theorem dX12_undefine_2 : decode cX12_undefine 2 = .ok (.iconst 3, 1) := by decide +kernel
theorem dX12_undefine_3 : decode cX12_undefine 3 = .ok (.invokestatic 74, 3) := by decide +kernel
theorem dX12_undefine_6 : decode cX12_undefine 6 = .ok (.ifCond .ne 5, 3) := by decide +kernel
theorem dX12_undefine_9 : decode cX12_undefine 9 = .ok (.iconst (-1), 1) := by decide +kernel
theorem dX12_undefine_10 : decode cX12_undefine 10 = .ok (.ireturn, 1) := by decide +kernel
theorem dX12_undefine_11 : decode cX12_undefine 11 = .ok (.aload_n 0, 1) := by decide +kernel
theorem dX12_undefine_12 : decode cX12_undefine 12 = .ok (.getfield 14, 3) := by decide +kernel
theorem dX12_undefine_15 : decode cX12_undefine 15 = .ok (.iconst 1, 1) := by decide +kernel
theorem dX12_undefine_16 : decode cX12_undefine 16 = .ok (.iload_n 1, 1) := by decide +kernel
theorem dX12_undefine_17 : decode cX12_undefine 17 = .ok (.iadd, 1) := by decide +kernel
theorem dX12_undefine_18 : decode cX12_undefine 18 = .ok (.iaload, 1) := by decide +kernel
theorem dX12_undefine_19 : decode cX12_undefine 19 = .ok (.bipush (-9), 2) := by decide +kernel
theorem dX12_undefine_21 : decode cX12_undefine 21 = .ok (.if_icmp .eq 7, 3) := by decide +kernel
theorem dX12_undefine_24 : decode cX12_undefine 24 = .ok (.iconst 1, 1) := by decide +kernel
theorem dX12_undefine_25 : decode cX12_undefine 25 = .ok (.goto 4, 3) := by decide +kernel
theorem dX12_undefine_28 : decode cX12_undefine 28 = .ok (.iconst 0, 1) := by decide +kernel
theorem dX12_undefine_29 : decode cX12_undefine 29 = .ok (.istore_n 2, 1) := by decide +kernel
theorem dX12_undefine_30 : decode cX12_undefine 30 = .ok (.aload_n 0, 1) := by decide +kernel
theorem dX12_undefine_31 : decode cX12_undefine 31 = .ok (.getfield 14, 3) := by decide +kernel
theorem dX12_undefine_34 : decode cX12_undefine 34 = .ok (.iconst 1, 1) := by decide +kernel
theorem dX12_undefine_35 : decode cX12_undefine 35 = .ok (.iload_n 1, 1) := by decide +kernel
theorem dX12_undefine_36 : decode cX12_undefine 36 = .ok (.iadd, 1) := by decide +kernel
theorem dX12_undefine_37 : decode cX12_undefine 37 = .ok (.bipush (-9), 2) := by decide +kernel
theorem dX12_undefine_39 : decode cX12_undefine 39 = .ok (.iastore, 1) := by decide +kernel
theorem dX12_undefine_40 : decode cX12_undefine 40 = .ok (.iload_n 2, 1) := by decide +kernel
theorem dX12_undefine_41 : decode cX12_undefine 41 = .ok (.ireturn, 1) := by decide +kernel
theorem dX12_begin_0 : decode cX12_begin 0 = .ok (.iconst 5, 1) := by decide +kernel
theorem dX12_begin_1 : decode cX12_begin 1 = .ok (.istore_n 1, 1) := by decide +kernel
theorem dX12_begin_2 : decode cX12_begin 2 = .ok (.iload_n 1, 1) := by decide +kernel
theorem dX12_begin_3 : decode cX12_begin 3 = .ok (.bipush 30, 2) := by decide +kernel
theorem dX12_begin_5 : decode cX12_begin 5 = .ok (.if_icmp .ge 16, 3) := by decide +kernel
theorem dX12_begin_8 : decode cX12_begin 8 = .ok (.aload_n 0, 1) := by decide +kernel
theorem dX12_begin_9 : decode cX12_begin 9 = .ok (.getfield 14, 3) := by decide +kernel
theorem dX12_begin_12 : decode cX12_begin 12 = .ok (.iload_n 1, 1) := by decide +kernel
theorem dX12_begin_13 : decode cX12_begin 13 = .ok (.iconst 0, 1) := by decide +kernel
theorem dX12_begin_14 : decode cX12_begin 14 = .ok (.iastore, 1) := by decide +kernel
theorem dX12_begin_15 : decode cX12_begin 15 = .ok (.iinc 1 1, 3) := by decide +kernel
theorem dX12_begin_18 : decode cX12_begin 18 = .ok (.goto (-16), 3) := by decide +kernel
theorem dX12_begin_21 : decode cX12_begin 21 = .ok (.aload_n 0, 1) := by decide +kernel
theorem dX12_begin_22 : decode cX12_begin 22 = .ok (.getfield 14, 3) := by decide +kernel
theorem dX12_begin_25 : decode cX12_begin 25 = .ok (.iconst 5, 1) := by decide +kernel
theorem dX12_begin_26 : decode cX12_begin 26 = .ok (.iconst 1, 1) := by decide +kernel
theorem dX12_begin_27 : decode cX12_begin 27 = .ok (.iastore, 1) := by decide +kernel
theorem dX12_begin_28 : decode cX12_begin 28 = .ok (.aload_n 0, 1) := by decide +kernel
theorem dX12_begin_29 : decode cX12_begin 29 = .ok (.getfield 14, 3) := by decide +kernel
theorem dX12_begin_32 : decode cX12_begin 32 = .ok (.bipush 7, 2) := by decide +kernel
theorem dX12_begin_34 : decode cX12_begin 34 = .ok (.bipush (-9), 2) := by decide +kernel
theorem dX12_begin_36 : decode cX12_begin 36 = .ok (.iastore, 1) := by decide +kernel
theorem dX12_begin_37 : decode cX12_begin 37 = .ok (.aload_n 0, 1) := by decide +kernel
theorem dX12_begin_38 : decode cX12_begin 38 = .ok (.getfield 14, 3) := by decide +kernel
theorem dX12_begin_41 : decode cX12_begin 41 = .ok (.bipush 15, 2) := by decide +kernel
theorem dX12_begin_43 : decode cX12_begin 43 = .ok (.bipush (-9), 2) := by decide +kernel
theorem dX12_begin_45 : decode cX12_begin 45 = .ok (.iastore, 1) := by decide +kernel
theorem dX12_begin_46 : decode cX12_begin 46 = .ok (.aload_n 0, 1) := by decide +kernel
theorem dX12_begin_47 : decode cX12_begin 47 = .ok (.getfield 14, 3) := by decide +kernel
theorem dX12_begin_50 : decode cX12_begin 50 = .ok (.bipush 16, 2) := by decide +kernel
theorem dX12_begin_52 : decode cX12_begin 52 = .ok (.iconst 2, 1) := by decide +kernel
theorem dX12_begin_53 : decode cX12_begin 53 = .ok (.iastore, 1) := by decide +kernel
theorem dX12_begin_54 : decode cX12_begin 54 = .ok (.aload_n 0, 1) := by decide +kernel
theorem dX12_begin_55 : decode cX12_begin 55 = .ok (.getfield 14, 3) := by decide +kernel
theorem dX12_begin_58 : decode cX12_begin 58 = .ok (.bipush 17, 2) := by decide +kernel
theorem dX12_begin_60 : decode cX12_begin 60 = .ok (.aload_n 0, 1) := by decide +kernel
theorem dX12_begin_61 : decode cX12_begin 61 = .ok (.getfield 14, 3) := by decide +kernel
theorem dX12_begin_64 : decode cX12_begin 64 = .ok (.iconst 0, 1) := by decide +kernel
theorem dX12_begin_65 : decode cX12_begin 65 = .ok (.iaload, 1) := by decide +kernel
theorem dX12_begin_66 : decode cX12_begin 66 = .ok (.iastore, 1) := by decide +kernel
theorem dX12_begin_67 : decode cX12_begin 67 = .ok (.aload_n 0, 1) := by decide +kernel
theorem dX12_begin_68 : decode cX12_begin 68 = .ok (.getfield 14, 3) := by decide +kernel
theorem dX12_begin_71 : decode cX12_begin 71 = .ok (.bipush 18, 2) := by decide +kernel
theorem dX12_begin_73 : decode cX12_begin 73 = .ok (.bipush (-9), 2) := by decide +kernel
theorem dX12_begin_75 : decode cX12_begin 75 = .ok (.iastore, 1) := by decide +kernel
theorem dX12_begin_76 : decode cX12_begin 76 = .ok (.aload_n 0, 1) := by decide +kernel
theorem dX12_begin_77 : decode cX12_begin 77 = .ok (.getfield 14, 3) := by decide +kernel
theorem dX12_begin_80 : decode cX12_begin 80 = .ok (.bipush 19, 2) := by decide +kernel
theorem dX12_begin_82 : decode cX12_begin 82 = .ok (.bipush (-9), 2) := by decide +kernel
theorem dX12_begin_84 : decode cX12_begin 84 = .ok (.iastore, 1) := by decide +kernel
theorem dX12_begin_85 : decode cX12_begin 85 = .ok (.return_, 1) := by decide +kernel
theorem dX12_restart_0 : decode cX12_restart 0 = .ok (.aload_n 0, 1) := by decide +kernel
theorem dX12_restart_1 : decode cX12_restart 1 = .ok (.getfield 14, 3) := by decide +kernel
theorem dX12_restart_4 : decode cX12_restart 4 = .ok (.iconst 0, 1) := by decide +kernel
theorem dX12_restart_5 : decode cX12_restart 5 = .ok (.iaload, 1) := by decide +kernel
theorem dX12_restart_6 : decode cX12_restart 6 = .ok (.bipush (-9), 2) := by decide +kernel
theorem dX12_restart_8 : decode cX12_restart 8 = .ok (.if_icmp .ne 6, 3) := by decide +kernel
theorem dX12_restart_11 : decode cX12_restart 11 = .ok (.bipush (-2), 2) := by decide +kernel
theorem dX12_restart_13 : decode cX12_restart 13 = .ok (.ireturn, 1) := by decide +kernel
theorem dX12_restart_14 : decode cX12_restart 14 = .ok (.aload_n 0, 1) := by decide +kernel
theorem dX12_restart_15 : decode cX12_restart 15 = .ok (.getfield 14, 3) := by decide +kernel
theorem dX12_restart_18 : decode cX12_restart 18 = .ok (.iconst 5, 1) := by decide +kernel
theorem dX12_restart_19 : decode cX12_restart 19 = .ok (.iaload, 1) := by decide +kernel
theorem dX12_restart_20 : decode cX12_restart 20 = .ok (.istore_n 1, 1) := by decide +kernel
theorem dX12_restart_21 : decode cX12_restart 21 = .ok (.aload_n 0, 1) := by decide +kernel
theorem dX12_restart_22 : decode cX12_restart 22 = .ok (.invokevirtual 71, 3) := by decide +kernel
theorem dX12_restart_25 : decode cX12_restart 25 = .ok (.iload_n 1, 1) := by decide +kernel
theorem dX12_restart_26 : decode cX12_restart 26 = .ok (.ireturn, 1) := by decide +kernel
theorem dX12_signOf_0 : decode cX12_signOf 0 = .ok (.iload_n 0, 1) := by decide +kernel
theorem dX12_signOf_1 : decode cX12_signOf 1 = .ok (.tableswitch 106 2 14 #[67, 70, 73, 76, 79, 82, 85, 88, 91, 94, 97, 100, 103], 67) := by decide +kernel
theorem dX12_signOf_68 : decode cX12_signOf 68 = .ok (.bipush 43, 2) := by decide +kernel
theorem dX12_signOf_70 : decode cX12_signOf 70 = .ok (.ireturn, 1) := by decide +kernel
theorem dX12_signOf_71 : decode cX12_signOf 71 = .ok (.bipush 45, 2) := by decide +kernel
theorem dX12_signOf_73 : decode cX12_signOf 73 = .ok (.ireturn, 1) := by decide +kernel
theorem dX12_signOf_74 : decode cX12_signOf 74 = .ok (.bipush 42, 2) := by decide +kernel
theorem dX12_signOf_76 : decode cX12_signOf 76 = .ok (.ireturn, 1) := by decide +kernel
theorem dX12_signOf_77 : decode cX12_signOf 77 = .ok (.bipush 60, 2) := by decide +kernel
theorem dX12_signOf_79 : decode cX12_signOf 79 = .ok (.ireturn, 1) := by decide +kernel
theorem dX12_signOf_80 : decode cX12_signOf 80 = .ok (.bipush 63, 2) := by decide +kernel
theorem dX12_signOf_82 : decode cX12_signOf 82 = .ok (.ireturn, 1) := by decide +kernel
theorem dX12_signOf_83 : decode cX12_signOf 83 = .ok (.bipush 59, 2) := by decide +kernel
theorem dX12_signOf_85 : decode cX12_signOf 85 = .ok (.ireturn, 1) := by decide +kernel
theorem dX12_signOf_86 : decode cX12_signOf 86 = .ok (.bipush 61, 2) := by decide +kernel
theorem dX12_signOf_88 : decode cX12_signOf 88 = .ok (.ireturn, 1) := by decide +kernel
theorem dX12_signOf_89 : decode cX12_signOf 89 = .ok (.bipush 33, 2) := by decide +kernel
theorem dX12_signOf_91 : decode cX12_signOf 91 = .ok (.ireturn, 1) := by decide +kernel
theorem dX12_signOf_92 : decode cX12_signOf 92 = .ok (.bipush 94, 2) := by decide +kernel
theorem dX12_signOf_94 : decode cX12_signOf 94 = .ok (.ireturn, 1) := by decide +kernel
theorem dX12_signOf_95 : decode cX12_signOf 95 = .ok (.bipush 126, 2) := by decide +kernel
theorem dX12_signOf_97 : decode cX12_signOf 97 = .ok (.ireturn, 1) := by decide +kernel
theorem dX12_signOf_98 : decode cX12_signOf 98 = .ok (.bipush 37, 2) := by decide +kernel
theorem dX12_signOf_100 : decode cX12_signOf 100 = .ok (.ireturn, 1) := by decide +kernel
theorem dX12_signOf_101 : decode cX12_signOf 101 = .ok (.bipush 38, 2) := by decide +kernel
theorem dX12_signOf_103 : decode cX12_signOf 103 = .ok (.ireturn, 1) := by decide +kernel
theorem dX12_signOf_104 : decode cX12_signOf 104 = .ok (.bipush 64, 2) := by decide +kernel
theorem dX12_signOf_106 : decode cX12_signOf 106 = .ok (.ireturn, 1) := by decide +kernel
theorem dX12_signOf_107 : decode cX12_signOf 107 = .ok (.bipush 123, 2) := by decide +kernel
theorem dX12_signOf_109 : decode cX12_signOf 109 = .ok (.ireturn, 1) := by decide +kernel
theorem dX12_layNumber_0 : decode cX12_layNumber 0 = .ok (.iload_n 1, 1) := by decide +kernel
theorem dX12_layNumber_1 : decode cX12_layNumber 1 = .ok (.istore 4, 2) := by decide +kernel
theorem dX12_layNumber_3 : decode cX12_layNumber 3 = .ok (.iload_n 3, 1) := by decide +kernel
theorem dX12_layNumber_4 : decode cX12_layNumber 4 = .ok (.ifCond .eq 15, 3) := by decide +kernel
theorem dX12_layNumber_7 : decode cX12_layNumber 7 = .ok (.aload_n 0, 1) := by decide +kernel
theorem dX12_layNumber_8 : decode cX12_layNumber 8 = .ok (.getfield 50, 3) := by decide +kernel
theorem dX12_layNumber_11 : decode cX12_layNumber 11 = .ok (.iload 4, 2) := by decide +kernel
theorem dX12_layNumber_13 : decode cX12_layNumber 13 = .ok (.bipush 32, 2) := by decide +kernel
theorem dX12_layNumber_15 : decode cX12_layNumber 15 = .ok (.iastore, 1) := by decide +kernel
theorem dX12_layNumber_16 : decode cX12_layNumber 16 = .ok (.iinc 4 1, 3) := by decide +kernel
theorem dX12_layNumber_19 : decode cX12_layNumber 19 = .ok (.iload_n 2, 1) := by decide +kernel
theorem dX12_layNumber_20 : decode cX12_layNumber 20 = .ok (.bipush 99, 2) := by decide +kernel
theorem dX12_layNumber_22 : decode cX12_layNumber 22 = .ok (.if_icmp .le 20, 3) := by decide +kernel
theorem dX12_layNumber_25 : decode cX12_layNumber 25 = .ok (.aload_n 0, 1) := by decide +kernel
theorem dX12_layNumber_26 : decode cX12_layNumber 26 = .ok (.getfield 50, 3) := by decide +kernel
theorem dX12_layNumber_29 : decode cX12_layNumber 29 = .ok (.iload 4, 2) := by decide +kernel
theorem dX12_layNumber_31 : decode cX12_layNumber 31 = .ok (.bipush 48, 2) := by decide +kernel
theorem dX12_layNumber_33 : decode cX12_layNumber 33 = .ok (.iload_n 2, 1) := by decide +kernel
theorem dX12_layNumber_34 : decode cX12_layNumber 34 = .ok (.bipush 100, 2) := by decide +kernel
theorem dX12_layNumber_36 : decode cX12_layNumber 36 = .ok (.idiv, 1) := by decide +kernel
theorem dX12_layNumber_37 : decode cX12_layNumber 37 = .ok (.iadd, 1) := by decide +kernel
theorem dX12_layNumber_38 : decode cX12_layNumber 38 = .ok (.iastore, 1) := by decide +kernel
theorem dX12_layNumber_39 : decode cX12_layNumber 39 = .ok (.iinc 4 1, 3) := by decide +kernel
theorem dX12_layNumber_42 : decode cX12_layNumber 42 = .ok (.iload_n 2, 1) := by decide +kernel
theorem dX12_layNumber_43 : decode cX12_layNumber 43 = .ok (.bipush 9, 2) := by decide +kernel
theorem dX12_layNumber_45 : decode cX12_layNumber 45 = .ok (.if_icmp .le 23, 3) := by decide +kernel
theorem dX12_layNumber_48 : decode cX12_layNumber 48 = .ok (.aload_n 0, 1) := by decide +kernel
theorem dX12_layNumber_49 : decode cX12_layNumber 49 = .ok (.getfield 50, 3) := by decide +kernel
theorem dX12_layNumber_52 : decode cX12_layNumber 52 = .ok (.iload 4, 2) := by decide +kernel
theorem dX12_layNumber_54 : decode cX12_layNumber 54 = .ok (.bipush 48, 2) := by decide +kernel
theorem dX12_layNumber_56 : decode cX12_layNumber 56 = .ok (.iload_n 2, 1) := by decide +kernel
theorem dX12_layNumber_57 : decode cX12_layNumber 57 = .ok (.bipush 10, 2) := by decide +kernel
theorem dX12_layNumber_59 : decode cX12_layNumber 59 = .ok (.idiv, 1) := by decide +kernel
theorem dX12_layNumber_60 : decode cX12_layNumber 60 = .ok (.bipush 10, 2) := by decide +kernel
theorem dX12_layNumber_62 : decode cX12_layNumber 62 = .ok (.irem, 1) := by decide +kernel
theorem dX12_layNumber_63 : decode cX12_layNumber 63 = .ok (.iadd, 1) := by decide +kernel
theorem dX12_layNumber_64 : decode cX12_layNumber 64 = .ok (.iastore, 1) := by decide +kernel
theorem dX12_layNumber_65 : decode cX12_layNumber 65 = .ok (.iinc 4 1, 3) := by decide +kernel
theorem dX12_layNumber_68 : decode cX12_layNumber 68 = .ok (.aload_n 0, 1) := by decide +kernel
theorem dX12_layNumber_69 : decode cX12_layNumber 69 = .ok (.getfield 50, 3) := by decide +kernel
theorem dX12_layNumber_72 : decode cX12_layNumber 72 = .ok (.iload 4, 2) := by decide +kernel
theorem dX12_layNumber_74 : decode cX12_layNumber 74 = .ok (.bipush 48, 2) := by decide +kernel
theorem dX12_layNumber_76 : decode cX12_layNumber 76 = .ok (.iload_n 2, 1) := by decide +kernel
theorem dX12_layNumber_77 : decode cX12_layNumber 77 = .ok (.bipush 10, 2) := by decide +kernel
theorem dX12_layNumber_79 : decode cX12_layNumber 79 = .ok (.irem, 1) := by decide +kernel
theorem dX12_layNumber_80 : decode cX12_layNumber 80 = .ok (.iadd, 1) := by decide +kernel
theorem dX12_layNumber_81 : decode cX12_layNumber 81 = .ok (.iastore, 1) := by decide +kernel
theorem dX12_layNumber_82 : decode cX12_layNumber 82 = .ok (.iload 4, 2) := by decide +kernel
theorem dX12_layNumber_84 : decode cX12_layNumber 84 = .ok (.iconst 1, 1) := by decide +kernel
theorem dX12_layNumber_85 : decode cX12_layNumber 85 = .ok (.iadd, 1) := by decide +kernel
theorem dX12_layNumber_86 : decode cX12_layNumber 86 = .ok (.ireturn, 1) := by decide +kernel
theorem dX12_namedBy_0 : decode cX12_namedBy 0 = .ok (.aload_n 0, 1) := by decide +kernel
theorem dX12_namedBy_1 : decode cX12_namedBy 1 = .ok (.iload_n 1, 1) := by decide +kernel
theorem dX12_namedBy_2 : decode cX12_namedBy 2 = .ok (.invokevirtual 134, 3) := by decide +kernel
theorem dX12_namedBy_5 : decode cX12_namedBy 5 = .ok (.tableswitch 66 8 13 #[39, 66, 48, 48, 66, 57], 39) := by decide +kernel
theorem dX12_namedBy_44 : decode cX12_namedBy 44 = .ok (.bipush 97, 2) := by decide +kernel
theorem dX12_namedBy_46 : decode cX12_namedBy 46 = .ok (.aload_n 0, 1) := by decide +kernel
theorem dX12_namedBy_47 : decode cX12_namedBy 47 = .ok (.iload_n 1, 1) := by decide +kernel
theorem dX12_namedBy_48 : decode cX12_namedBy 48 = .ok (.invokevirtual 137, 3) := by decide +kernel
theorem dX12_namedBy_51 : decode cX12_namedBy 51 = .ok (.iadd, 1) := by decide +kernel
theorem dX12_namedBy_52 : decode cX12_namedBy 52 = .ok (.ireturn, 1) := by decide +kernel
theorem dX12_namedBy_53 : decode cX12_namedBy 53 = .ok (.bipush 65, 2) := by decide +kernel
theorem dX12_namedBy_55 : decode cX12_namedBy 55 = .ok (.aload_n 0, 1) := by decide +kernel
theorem dX12_namedBy_56 : decode cX12_namedBy 56 = .ok (.iload_n 1, 1) := by decide +kernel
theorem dX12_namedBy_57 : decode cX12_namedBy 57 = .ok (.invokevirtual 137, 3) := by decide +kernel
theorem dX12_namedBy_60 : decode cX12_namedBy 60 = .ok (.iadd, 1) := by decide +kernel
theorem dX12_namedBy_61 : decode cX12_namedBy 61 = .ok (.ireturn, 1) := by decide +kernel
theorem dX12_namedBy_62 : decode cX12_namedBy 62 = .ok (.bipush 48, 2) := by decide +kernel
theorem dX12_namedBy_64 : decode cX12_namedBy 64 = .ok (.aload_n 0, 1) := by decide +kernel
theorem dX12_namedBy_65 : decode cX12_namedBy 65 = .ok (.iload_n 1, 1) := by decide +kernel
theorem dX12_namedBy_66 : decode cX12_namedBy 66 = .ok (.invokevirtual 137, 3) := by decide +kernel
theorem dX12_namedBy_69 : decode cX12_namedBy 69 = .ok (.iadd, 1) := by decide +kernel
theorem dX12_namedBy_70 : decode cX12_namedBy 70 = .ok (.ireturn, 1) := by decide +kernel
theorem dX12_namedBy_71 : decode cX12_namedBy 71 = .ok (.bipush (-9), 2) := by decide +kernel
theorem dX12_namedBy_73 : decode cX12_namedBy 73 = .ok (.ireturn, 1) := by decide +kernel
theorem dX12_layParts_0 : decode cX12_layParts 0 = .ok (.iload_n 1, 1) := by decide +kernel
theorem dX12_layParts_1 : decode cX12_layParts 1 = .ok (.istore_n 3, 1) := by decide +kernel
theorem dX12_layParts_2 : decode cX12_layParts 2 = .ok (.aload_n 0, 1) := by decide +kernel
theorem dX12_layParts_3 : decode cX12_layParts 3 = .ok (.iload_n 2, 1) := by decide +kernel
theorem dX12_layParts_4 : decode cX12_layParts 4 = .ok (.invokevirtual 134, 3) := by decide +kernel
theorem dX12_layParts_7 : decode cX12_layParts 7 = .ok (.bipush 15, 2) := by decide +kernel
theorem dX12_layParts_9 : decode cX12_layParts 9 = .ok (.if_icmp .ne 121, 3) := by decide +kernel
theorem dX12_layParts_12 : decode cX12_layParts 12 = .ok (.aload_n 0, 1) := by decide +kernel
theorem dX12_layParts_13 : decode cX12_layParts 13 = .ok (.getfield 47, 3) := by decide +kernel
theorem dX12_layParts_16 : decode cX12_layParts 16 = .ok (.iload_n 3, 1) := by decide +kernel
theorem dX12_layParts_17 : decode cX12_layParts 17 = .ok (.bipush (-125), 2) := by decide +kernel
theorem dX12_layParts_19 : decode cX12_layParts 19 = .ok (.iastore, 1) := by decide +kernel
theorem dX12_layParts_20 : decode cX12_layParts 20 = .ok (.iinc 3 1, 3) := by decide +kernel
theorem dX12_layParts_23 : decode cX12_layParts 23 = .ok (.bipush 6, 2) := by decide +kernel
theorem dX12_layParts_25 : decode cX12_layParts 25 = .ok (.istore 4, 2) := by decide +kernel
theorem dX12_layParts_27 : decode cX12_layParts 27 = .ok (.iload 4, 2) := by decide +kernel
theorem dX12_layParts_29 : decode cX12_layParts 29 = .ok (.ifCond .lt 85, 3) := by decide +kernel
theorem dX12_layParts_32 : decode cX12_layParts 32 = .ok (.aload_n 0, 1) := by decide +kernel
theorem dX12_layParts_33 : decode cX12_layParts 33 = .ok (.iload_n 2, 1) := by decide +kernel
theorem dX12_layParts_34 : decode cX12_layParts 34 = .ok (.iload 4, 2) := by decide +kernel
theorem dX12_layParts_36 : decode cX12_layParts 36 = .ok (.invokevirtual 131, 3) := by decide +kernel
theorem dX12_layParts_39 : decode cX12_layParts 39 = .ok (.istore 5, 2) := by decide +kernel
theorem dX12_layParts_41 : decode cX12_layParts 41 = .ok (.iload 5, 2) := by decide +kernel
theorem dX12_layParts_43 : decode cX12_layParts 43 = .ok (.bipush (-9), 2) := by decide +kernel
theorem dX12_layParts_45 : decode cX12_layParts 45 = .ok (.if_icmp .eq 63, 3) := by decide +kernel
theorem dX12_layParts_48 : decode cX12_layParts 48 = .ok (.aload_n 0, 1) := by decide +kernel
theorem dX12_layParts_49 : decode cX12_layParts 49 = .ok (.getfield 47, 3) := by decide +kernel
theorem dX12_layParts_52 : decode cX12_layParts 52 = .ok (.iload_n 3, 1) := by decide +kernel
theorem dX12_layParts_53 : decode cX12_layParts 53 = .ok (.aload_n 0, 1) := by decide +kernel
theorem dX12_layParts_54 : decode cX12_layParts 54 = .ok (.iload 5, 2) := by decide +kernel
theorem dX12_layParts_56 : decode cX12_layParts 56 = .ok (.iconst 1, 1) := by decide +kernel
theorem dX12_layParts_57 : decode cX12_layParts 57 = .ok (.invokevirtual 165, 3) := by decide +kernel
theorem dX12_layParts_60 : decode cX12_layParts 60 = .ok (.iastore, 1) := by decide +kernel
theorem dX12_layParts_61 : decode cX12_layParts 61 = .ok (.aload_n 0, 1) := by decide +kernel
theorem dX12_layParts_62 : decode cX12_layParts 62 = .ok (.getfield 47, 3) := by decide +kernel
theorem dX12_layParts_65 : decode cX12_layParts 65 = .ok (.iload_n 3, 1) := by decide +kernel
theorem dX12_layParts_66 : decode cX12_layParts 66 = .ok (.iconst 1, 1) := by decide +kernel
theorem dX12_layParts_67 : decode cX12_layParts 67 = .ok (.iadd, 1) := by decide +kernel
theorem dX12_layParts_68 : decode cX12_layParts 68 = .ok (.bipush 97, 2) := by decide +kernel
theorem dX12_layParts_70 : decode cX12_layParts 70 = .ok (.aload_n 0, 1) := by decide +kernel
theorem dX12_layParts_71 : decode cX12_layParts 71 = .ok (.iload 5, 2) := by decide +kernel
theorem dX12_layParts_73 : decode cX12_layParts 73 = .ok (.invokevirtual 137, 3) := by decide +kernel
theorem dX12_layParts_76 : decode cX12_layParts 76 = .ok (.iadd, 1) := by decide +kernel
theorem dX12_layParts_77 : decode cX12_layParts 77 = .ok (.ineg, 1) := by decide +kernel
theorem dX12_layParts_78 : decode cX12_layParts 78 = .ok (.iastore, 1) := by decide +kernel
theorem dX12_layParts_79 : decode cX12_layParts 79 = .ok (.aload_n 0, 1) := by decide +kernel
theorem dX12_layParts_80 : decode cX12_layParts 80 = .ok (.getfield 47, 3) := by decide +kernel
theorem dX12_layParts_83 : decode cX12_layParts 83 = .ok (.iload_n 3, 1) := by decide +kernel
theorem dX12_layParts_84 : decode cX12_layParts 84 = .ok (.iconst 2, 1) := by decide +kernel
theorem dX12_layParts_85 : decode cX12_layParts 85 = .ok (.iadd, 1) := by decide +kernel
theorem dX12_layParts_86 : decode cX12_layParts 86 = .ok (.iload 4, 2) := by decide +kernel
theorem dX12_layParts_88 : decode cX12_layParts 88 = .ok (.bipush 6, 2) := by decide +kernel
theorem dX12_layParts_90 : decode cX12_layParts 90 = .ok (.if_icmp .ne 8, 3) := by decide +kernel
theorem dX12_layParts_93 : decode cX12_layParts 93 = .ok (.bipush (-58), 2) := by decide +kernel
theorem dX12_layParts_95 : decode cX12_layParts 95 = .ok (.goto 9, 3) := by decide +kernel
theorem dX12_layParts_98 : decode cX12_layParts 98 = .ok (.bipush 65, 2) := by decide +kernel
theorem dX12_layParts_100 : decode cX12_layParts 100 = .ok (.iload 4, 2) := by decide +kernel
theorem dX12_layParts_102 : decode cX12_layParts 102 = .ok (.iadd, 1) := by decide +kernel
theorem dX12_layParts_103 : decode cX12_layParts 103 = .ok (.ineg, 1) := by decide +kernel
theorem dX12_layParts_104 : decode cX12_layParts 104 = .ok (.iastore, 1) := by decide +kernel
theorem dX12_layParts_105 : decode cX12_layParts 105 = .ok (.iinc 3 3, 3) := by decide +kernel
theorem dX12_layParts_108 : decode cX12_layParts 108 = .ok (.iinc 4 (-1), 3) := by decide +kernel
theorem dX12_layParts_111 : decode cX12_layParts 111 = .ok (.goto (-84), 3) := by decide +kernel
theorem dX12_layParts_114 : decode cX12_layParts 114 = .ok (.aload_n 0, 1) := by decide +kernel
theorem dX12_layParts_115 : decode cX12_layParts 115 = .ok (.getfield 47, 3) := by decide +kernel
theorem dX12_layParts_118 : decode cX12_layParts 118 = .ok (.iload_n 3, 1) := by decide +kernel
theorem dX12_layParts_119 : decode cX12_layParts 119 = .ok (.aload_n 0, 1) := by decide +kernel
theorem dX12_layParts_120 : decode cX12_layParts 120 = .ok (.iload_n 2, 1) := by decide +kernel
theorem dX12_layParts_121 : decode cX12_layParts 121 = .ok (.iconst 1, 1) := by decide +kernel
theorem dX12_layParts_122 : decode cX12_layParts 122 = .ok (.invokevirtual 165, 3) := by decide +kernel
theorem dX12_layParts_125 : decode cX12_layParts 125 = .ok (.iastore, 1) := by decide +kernel
theorem dX12_layParts_126 : decode cX12_layParts 126 = .ok (.iload_n 3, 1) := by decide +kernel
theorem dX12_layParts_127 : decode cX12_layParts 127 = .ok (.iconst 1, 1) := by decide +kernel
theorem dX12_layParts_128 : decode cX12_layParts 128 = .ok (.iadd, 1) := by decide +kernel
theorem dX12_layParts_129 : decode cX12_layParts 129 = .ok (.ireturn, 1) := by decide +kernel
theorem dX12_layParts_130 : decode cX12_layParts 130 = .ok (.aload_n 0, 1) := by decide +kernel
theorem dX12_layParts_131 : decode cX12_layParts 131 = .ok (.iload_n 2, 1) := by decide +kernel
theorem dX12_layParts_132 : decode cX12_layParts 132 = .ok (.invokevirtual 134, 3) := by decide +kernel
theorem dX12_layParts_135 : decode cX12_layParts 135 = .ok (.invokestatic 144, 3) := by decide +kernel
theorem dX12_layParts_138 : decode cX12_layParts 138 = .ok (.istore 4, 2) := by decide +kernel
theorem dX12_layParts_140 : decode cX12_layParts 140 = .ok (.iload 4, 2) := by decide +kernel
theorem dX12_layParts_142 : decode cX12_layParts 142 = .ok (.iconst 1, 1) := by decide +kernel
theorem dX12_layParts_143 : decode cX12_layParts 143 = .ok (.if_icmp .lt 25, 3) := by decide +kernel
theorem dX12_layParts_146 : decode cX12_layParts 146 = .ok (.aload_n 0, 1) := by decide +kernel
theorem dX12_layParts_147 : decode cX12_layParts 147 = .ok (.getfield 47, 3) := by decide +kernel
theorem dX12_layParts_150 : decode cX12_layParts 150 = .ok (.iload_n 3, 1) := by decide +kernel
theorem dX12_layParts_151 : decode cX12_layParts 151 = .ok (.aload_n 0, 1) := by decide +kernel
theorem dX12_layParts_152 : decode cX12_layParts 152 = .ok (.iload_n 2, 1) := by decide +kernel
theorem dX12_layParts_153 : decode cX12_layParts 153 = .ok (.iload 4, 2) := by decide +kernel
theorem dX12_layParts_155 : decode cX12_layParts 155 = .ok (.invokevirtual 165, 3) := by decide +kernel
theorem dX12_layParts_158 : decode cX12_layParts 158 = .ok (.iastore, 1) := by decide +kernel
theorem dX12_layParts_159 : decode cX12_layParts 159 = .ok (.iinc 3 1, 3) := by decide +kernel
theorem dX12_layParts_162 : decode cX12_layParts 162 = .ok (.iinc 4 (-1), 3) := by decide +kernel
theorem dX12_layParts_165 : decode cX12_layParts 165 = .ok (.goto (-25), 3) := by decide +kernel
theorem dX12_layParts_168 : decode cX12_layParts 168 = .ok (.iload_n 3, 1) := by decide +kernel
theorem dX12_layParts_169 : decode cX12_layParts 169 = .ok (.ireturn, 1) := by decide +kernel
theorem dX12_layListing_0 : decode cX12_layListing 0 = .ok (.iconst 0, 1) := by decide +kernel
theorem dX12_layListing_1 : decode cX12_layListing 1 = .ok (.istore_n 1, 1) := by decide +kernel
theorem dX12_layListing_2 : decode cX12_layListing 2 = .ok (.iconst 1, 1) := by decide +kernel
theorem dX12_layListing_3 : decode cX12_layListing 3 = .ok (.istore_n 2, 1) := by decide +kernel
theorem dX12_layListing_4 : decode cX12_layListing 4 = .ok (.iconst 0, 1) := by decide +kernel
theorem dX12_layListing_5 : decode cX12_layListing 5 = .ok (.istore_n 3, 1) := by decide +kernel
theorem dX12_layListing_6 : decode cX12_layListing 6 = .ok (.aload_n 0, 1) := by decide +kernel
theorem dX12_layListing_7 : decode cX12_layListing 7 = .ok (.getfield 47, 3) := by decide +kernel
theorem dX12_layListing_10 : decode cX12_layListing 10 = .ok (.iconst 0, 1) := by decide +kernel
theorem dX12_layListing_11 : decode cX12_layListing 11 = .ok (.aload_n 0, 1) := by decide +kernel
theorem dX12_layListing_12 : decode cX12_layListing 12 = .ok (.getfield 14, 3) := by decide +kernel
theorem dX12_layListing_15 : decode cX12_layListing 15 = .ok (.iconst 0, 1) := by decide +kernel
theorem dX12_layListing_16 : decode cX12_layListing 16 = .ok (.iaload, 1) := by decide +kernel
theorem dX12_layListing_17 : decode cX12_layListing 17 = .ok (.iastore, 1) := by decide +kernel
theorem dX12_layListing_18 : decode cX12_layListing 18 = .ok (.iload_n 2, 1) := by decide +kernel
theorem dX12_layListing_19 : decode cX12_layListing 19 = .ok (.ifCond .le 160, 3) := by decide +kernel
theorem dX12_layListing_22 : decode cX12_layListing 22 = .ok (.iinc 2 (-1), 3) := by decide +kernel
theorem dX12_layListing_25 : decode cX12_layListing 25 = .ok (.aload_n 0, 1) := by decide +kernel
theorem dX12_layListing_26 : decode cX12_layListing 26 = .ok (.getfield 47, 3) := by decide +kernel
theorem dX12_layListing_29 : decode cX12_layListing 29 = .ok (.iload_n 2, 1) := by decide +kernel
theorem dX12_layListing_30 : decode cX12_layListing 30 = .ok (.iaload, 1) := by decide +kernel
theorem dX12_layListing_31 : decode cX12_layListing 31 = .ok (.istore 4, 2) := by decide +kernel
theorem dX12_layListing_33 : decode cX12_layListing 33 = .ok (.iload 4, 2) := by decide +kernel
theorem dX12_layListing_35 : decode cX12_layListing 35 = .ok (.ifCond .lt 30, 3) := by decide +kernel
theorem dX12_layListing_38 : decode cX12_layListing 38 = .ok (.aload_n 0, 1) := by decide +kernel
theorem dX12_layListing_39 : decode cX12_layListing 39 = .ok (.iload 4, 2) := by decide +kernel
theorem dX12_layListing_41 : decode cX12_layListing 41 = .ok (.invokevirtual 134, 3) := by decide +kernel
theorem dX12_layListing_44 : decode cX12_layListing 44 = .ok (.ifCond .ne 21, 3) := by decide +kernel
theorem dX12_layListing_47 : decode cX12_layListing 47 = .ok (.aload_n 0, 1) := by decide +kernel
theorem dX12_layListing_48 : decode cX12_layListing 48 = .ok (.iload_n 1, 1) := by decide +kernel
theorem dX12_layListing_49 : decode cX12_layListing 49 = .ok (.aload_n 0, 1) := by decide +kernel
theorem dX12_layListing_50 : decode cX12_layListing 50 = .ok (.iload 4, 2) := by decide +kernel
theorem dX12_layListing_52 : decode cX12_layListing 52 = .ok (.invokevirtual 137, 3) := by decide +kernel
theorem dX12_layListing_55 : decode cX12_layListing 55 = .ok (.iload_n 3, 1) := by decide +kernel
theorem dX12_layListing_56 : decode cX12_layListing 56 = .ok (.invokevirtual 168, 3) := by decide +kernel
theorem dX12_layListing_59 : decode cX12_layListing 59 = .ok (.istore_n 1, 1) := by decide +kernel
theorem dX12_layListing_60 : decode cX12_layListing 60 = .ok (.iconst 1, 1) := by decide +kernel
theorem dX12_layListing_61 : decode cX12_layListing 61 = .ok (.istore_n 3, 1) := by decide +kernel
theorem dX12_layListing_62 : decode cX12_layListing 62 = .ok (.goto 114, 3) := by decide +kernel
theorem dX12_layListing_65 : decode cX12_layListing 65 = .ok (.iconst 0, 1) := by decide +kernel
theorem dX12_layListing_66 : decode cX12_layListing 66 = .ok (.istore_n 3, 1) := by decide +kernel
theorem dX12_layListing_67 : decode cX12_layListing 67 = .ok (.aload_n 0, 1) := by decide +kernel
theorem dX12_layListing_68 : decode cX12_layListing 68 = .ok (.getfield 50, 3) := by decide +kernel
theorem dX12_layListing_71 : decode cX12_layListing 71 = .ok (.iload_n 1, 1) := by decide +kernel
theorem dX12_layListing_72 : decode cX12_layListing 72 = .ok (.iload 4, 2) := by decide +kernel
theorem dX12_layListing_74 : decode cX12_layListing 74 = .ok (.ifCond .ge 9, 3) := by decide +kernel
theorem dX12_layListing_77 : decode cX12_layListing 77 = .ok (.iload 4, 2) := by decide +kernel
theorem dX12_layListing_79 : decode cX12_layListing 79 = .ok (.ineg, 1) := by decide +kernel
theorem dX12_layListing_80 : decode cX12_layListing 80 = .ok (.goto 34, 3) := by decide +kernel
theorem dX12_layListing_83 : decode cX12_layListing 83 = .ok (.aload_n 0, 1) := by decide +kernel
theorem dX12_layListing_84 : decode cX12_layListing 84 = .ok (.iload 4, 2) := by decide +kernel
theorem dX12_layListing_86 : decode cX12_layListing 86 = .ok (.invokevirtual 134, 3) := by decide +kernel
theorem dX12_layListing_89 : decode cX12_layListing 89 = .ok (.iconst 1, 1) := by decide +kernel
theorem dX12_layListing_90 : decode cX12_layListing 90 = .ok (.if_icmp .ne 15, 3) := by decide +kernel
theorem dX12_layListing_93 : decode cX12_layListing 93 = .ok (.bipush 97, 2) := by decide +kernel
theorem dX12_layListing_95 : decode cX12_layListing 95 = .ok (.aload_n 0, 1) := by decide +kernel
theorem dX12_layListing_96 : decode cX12_layListing 96 = .ok (.iload 4, 2) := by decide +kernel
theorem dX12_layListing_98 : decode cX12_layListing 98 = .ok (.invokevirtual 137, 3) := by decide +kernel
theorem dX12_layListing_101 : decode cX12_layListing 101 = .ok (.iadd, 1) := by decide +kernel
theorem dX12_layListing_102 : decode cX12_layListing 102 = .ok (.goto 12, 3) := by decide +kernel
theorem dX12_layListing_105 : decode cX12_layListing 105 = .ok (.aload_n 0, 1) := by decide +kernel
theorem dX12_layListing_106 : decode cX12_layListing 106 = .ok (.iload 4, 2) := by decide +kernel
theorem dX12_layListing_108 : decode cX12_layListing 108 = .ok (.invokevirtual 134, 3) := by decide +kernel
theorem dX12_layListing_111 : decode cX12_layListing 111 = .ok (.invokestatic 172, 3) := by decide +kernel
theorem dX12_layListing_114 : decode cX12_layListing 114 = .ok (.iastore, 1) := by decide +kernel
theorem dX12_layListing_115 : decode cX12_layListing 115 = .ok (.iinc 1 1, 3) := by decide +kernel
theorem dX12_layListing_118 : decode cX12_layListing 118 = .ok (.iload 4, 2) := by decide +kernel
theorem dX12_layListing_120 : decode cX12_layListing 120 = .ok (.ifCond .lt 29, 3) := by decide +kernel
theorem dX12_layListing_123 : decode cX12_layListing 123 = .ok (.aload_n 0, 1) := by decide +kernel
theorem dX12_layListing_124 : decode cX12_layListing 124 = .ok (.iload 4, 2) := by decide +kernel
theorem dX12_layListing_126 : decode cX12_layListing 126 = .ok (.invokevirtual 175, 3) := by decide +kernel
theorem dX12_layListing_129 : decode cX12_layListing 129 = .ok (.bipush (-9), 2) := by decide +kernel
theorem dX12_layListing_131 : decode cX12_layListing 131 = .ok (.if_icmp .eq 18, 3) := by decide +kernel
theorem dX12_layListing_134 : decode cX12_layListing 134 = .ok (.aload_n 0, 1) := by decide +kernel
theorem dX12_layListing_135 : decode cX12_layListing 135 = .ok (.getfield 50, 3) := by decide +kernel
theorem dX12_layListing_138 : decode cX12_layListing 138 = .ok (.iload_n 1, 1) := by decide +kernel
theorem dX12_layListing_139 : decode cX12_layListing 139 = .ok (.aload_n 0, 1) := by decide +kernel
theorem dX12_layListing_140 : decode cX12_layListing 140 = .ok (.iload 4, 2) := by decide +kernel
theorem dX12_layListing_142 : decode cX12_layListing 142 = .ok (.invokevirtual 175, 3) := by decide +kernel
theorem dX12_layListing_145 : decode cX12_layListing 145 = .ok (.iastore, 1) := by decide +kernel
theorem dX12_layListing_146 : decode cX12_layListing 146 = .ok (.iinc 1 1, 3) := by decide +kernel
theorem dX12_layListing_149 : decode cX12_layListing 149 = .ok (.iload 4, 2) := by decide +kernel
theorem dX12_layListing_151 : decode cX12_layListing 151 = .ok (.ifCond .lt 23, 3) := by decide +kernel
theorem dX12_layListing_154 : decode cX12_layListing 154 = .ok (.aload_n 0, 1) := by decide +kernel
theorem dX12_layListing_155 : decode cX12_layListing 155 = .ok (.iload 4, 2) := by decide +kernel
theorem dX12_layListing_157 : decode cX12_layListing 157 = .ok (.invokevirtual 134, 3) := by decide +kernel
theorem dX12_layListing_160 : decode cX12_layListing 160 = .ok (.iconst 1, 1) := by decide +kernel
theorem dX12_layListing_161 : decode cX12_layListing 161 = .ok (.if_icmp .eq 13, 3) := by decide +kernel
theorem dX12_layListing_164 : decode cX12_layListing 164 = .ok (.aload_n 0, 1) := by decide +kernel
theorem dX12_layListing_165 : decode cX12_layListing 165 = .ok (.iload_n 2, 1) := by decide +kernel
theorem dX12_layListing_166 : decode cX12_layListing 166 = .ok (.iload 4, 2) := by decide +kernel
theorem dX12_layListing_168 : decode cX12_layListing 168 = .ok (.invokevirtual 178, 3) := by decide +kernel
theorem dX12_layListing_171 : decode cX12_layListing 171 = .ok (.goto 4, 3) := by decide +kernel
theorem dX12_layListing_174 : decode cX12_layListing 174 = .ok (.iload_n 2, 1) := by decide +kernel
theorem dX12_layListing_175 : decode cX12_layListing 175 = .ok (.istore_n 2, 1) := by decide +kernel
theorem dX12_layListing_176 : decode cX12_layListing 176 = .ok (.goto (-158), 3) := by decide +kernel
theorem dX12_layListing_179 : decode cX12_layListing 179 = .ok (.iload_n 1, 1) := by decide +kernel
theorem dX12_layListing_180 : decode cX12_layListing 180 = .ok (.ireturn, 1) := by decide +kernel
theorem dX12_listing_0 : decode cX12_listing 0 = .ok (.iload_n 1, 1) := by decide +kernel
theorem dX12_listing_1 : decode cX12_listing 1 = .ok (.ifCond .ge 5, 3) := by decide +kernel
theorem dX12_listing_4 : decode cX12_listing 4 = .ok (.iconst (-1), 1) := by decide +kernel
theorem dX12_listing_5 : decode cX12_listing 5 = .ok (.ireturn, 1) := by decide +kernel
theorem dX12_listing_6 : decode cX12_listing 6 = .ok (.aload_n 0, 1) := by decide +kernel
theorem dX12_listing_7 : decode cX12_listing 7 = .ok (.getfield 14, 3) := by decide +kernel
theorem dX12_listing_10 : decode cX12_listing 10 = .ok (.iconst 0, 1) := by decide +kernel
theorem dX12_listing_11 : decode cX12_listing 11 = .ok (.iaload, 1) := by decide +kernel
theorem dX12_listing_12 : decode cX12_listing 12 = .ok (.bipush (-9), 2) := by decide +kernel
theorem dX12_listing_14 : decode cX12_listing 14 = .ok (.if_icmp .ne 6, 3) := by decide +kernel
theorem dX12_listing_17 : decode cX12_listing 17 = .ok (.bipush (-2), 2) := by decide +kernel
theorem dX12_listing_19 : decode cX12_listing 19 = .ok (.ireturn, 1) := by decide +kernel
theorem dX12_listing_20 : decode cX12_listing 20 = .ok (.iload_n 1, 1) := by decide +kernel
theorem dX12_listing_21 : decode cX12_listing 21 = .ok (.aload_n 0, 1) := by decide +kernel
theorem dX12_listing_22 : decode cX12_listing 22 = .ok (.invokevirtual 181, 3) := by decide +kernel
theorem dX12_listing_25 : decode cX12_listing 25 = .ok (.if_icmp .ge 12, 3) := by decide +kernel
theorem dX12_listing_28 : decode cX12_listing 28 = .ok (.aload_n 0, 1) := by decide +kernel
theorem dX12_listing_29 : decode cX12_listing 29 = .ok (.getfield 50, 3) := by decide +kernel
theorem dX12_listing_32 : decode cX12_listing 32 = .ok (.iload_n 1, 1) := by decide +kernel
theorem dX12_listing_33 : decode cX12_listing 33 = .ok (.iaload, 1) := by decide +kernel
theorem dX12_listing_34 : decode cX12_listing 34 = .ok (.goto 5, 3) := by decide +kernel
theorem dX12_listing_37 : decode cX12_listing 37 = .ok (.bipush (-9), 2) := by decide +kernel
theorem dX12_listing_39 : decode cX12_listing 39 = .ok (.ireturn, 1) := by decide +kernel
theorem dX12_levelsOf_0 : decode cX12_levelsOf 0 = .ok (.iload_n 0, 1) := by decide +kernel
theorem dX12_levelsOf_1 : decode cX12_levelsOf 1 = .ok (.iconst 4, 1) := by decide +kernel
theorem dX12_levelsOf_2 : decode cX12_levelsOf 2 = .ok (.iload_n 1, 1) := by decide +kernel
theorem dX12_levelsOf_3 : decode cX12_levelsOf 3 = .ok (.imul, 1) := by decide +kernel
theorem dX12_levelsOf_4 : decode cX12_levelsOf 4 = .ok (.ishr, 1) := by decide +kernel
theorem dX12_levelsOf_5 : decode cX12_levelsOf 5 = .ok (.bipush 15, 2) := by decide +kernel
theorem dX12_levelsOf_7 : decode cX12_levelsOf 7 = .ok (.iand, 1) := by decide +kernel
theorem dX12_levelsOf_8 : decode cX12_levelsOf 8 = .ok (.ireturn, 1) := by decide +kernel
theorem dX12_withLevels_0 : decode cX12_withLevels 0 = .ok (.iload_n 0, 1) := by decide +kernel
theorem dX12_withLevels_1 : decode cX12_withLevels 1 = .ok (.bipush 15, 2) := by decide +kernel
theorem dX12_withLevels_3 : decode cX12_withLevels 3 = .ok (.iconst 4, 1) := by decide +kernel
theorem dX12_withLevels_4 : decode cX12_withLevels 4 = .ok (.iload_n 1, 1) := by decide +kernel
theorem dX12_withLevels_5 : decode cX12_withLevels 5 = .ok (.imul, 1) := by decide +kernel
theorem dX12_withLevels_6 : decode cX12_withLevels 6 = .ok (.ishl, 1) := by decide +kernel
theorem dX12_withLevels_7 : decode cX12_withLevels 7 = .ok (.iconst (-1), 1) := by decide +kernel
theorem dX12_withLevels_8 : decode cX12_withLevels 8 = .ok (.ixor, 1) := by decide +kernel
theorem dX12_withLevels_9 : decode cX12_withLevels 9 = .ok (.iand, 1) := by decide +kernel
theorem dX12_withLevels_10 : decode cX12_withLevels 10 = .ok (.iload_n 2, 1) := by decide +kernel
theorem dX12_withLevels_11 : decode cX12_withLevels 11 = .ok (.iconst 4, 1) := by decide +kernel
theorem dX12_withLevels_12 : decode cX12_withLevels 12 = .ok (.iload_n 1, 1) := by decide +kernel
theorem dX12_withLevels_13 : decode cX12_withLevels 13 = .ok (.imul, 1) := by decide +kernel
theorem dX12_withLevels_14 : decode cX12_withLevels 14 = .ok (.ishl, 1) := by decide +kernel
theorem dX12_withLevels_15 : decode cX12_withLevels 15 = .ok (.ior, 1) := by decide +kernel
theorem dX12_withLevels_16 : decode cX12_withLevels 16 = .ok (.ireturn, 1) := by decide +kernel
theorem dX12_masked_0 : decode cX12_masked 0 = .ok (.iload_n 0, 1) := by decide +kernel
theorem dX12_masked_1 : decode cX12_masked 1 = .ok (.iload_n 1, 1) := by decide +kernel
theorem dX12_masked_2 : decode cX12_masked 2 = .ok (.invokestatic 184, 3) := by decide +kernel
theorem dX12_masked_5 : decode cX12_masked 5 = .ok (.istore_n 2, 1) := by decide +kernel
theorem dX12_masked_6 : decode cX12_masked 6 = .ok (.iload_n 0, 1) := by decide +kernel
theorem dX12_masked_7 : decode cX12_masked 7 = .ok (.iload_n 1, 1) := by decide +kernel
theorem dX12_masked_8 : decode cX12_masked 8 = .ok (.iload_n 2, 1) := by decide +kernel
theorem dX12_masked_9 : decode cX12_masked 9 = .ok (.iconst 1, 1) := by decide +kernel
theorem dX12_masked_10 : decode cX12_masked 10 = .ok (.ishl, 1) := by decide +kernel
theorem dX12_masked_11 : decode cX12_masked 11 = .ok (.bipush 15, 2) := by decide +kernel
theorem dX12_masked_13 : decode cX12_masked 13 = .ok (.iand, 1) := by decide +kernel
theorem dX12_masked_14 : decode cX12_masked 14 = .ok (.iload_n 2, 1) := by decide +kernel
theorem dX12_masked_15 : decode cX12_masked 15 = .ok (.bipush 8, 2) := by decide +kernel
theorem dX12_masked_17 : decode cX12_masked 17 = .ok (.iand, 1) := by decide +kernel
theorem dX12_masked_18 : decode cX12_masked 18 = .ok (.ior, 1) := by decide +kernel
theorem dX12_masked_19 : decode cX12_masked 19 = .ok (.invokestatic 187, 3) := by decide +kernel
theorem dX12_masked_22 : decode cX12_masked 22 = .ok (.ireturn, 1) := by decide +kernel
theorem dX12_handled_0 : decode cX12_handled 0 = .ok (.iload_n 0, 1) := by decide +kernel
theorem dX12_handled_1 : decode cX12_handled 1 = .ok (.iload_n 1, 1) := by decide +kernel
theorem dX12_handled_2 : decode cX12_handled 2 = .ok (.invokestatic 184, 3) := by decide +kernel
theorem dX12_handled_5 : decode cX12_handled 5 = .ok (.istore_n 2, 1) := by decide +kernel
theorem dX12_handled_6 : decode cX12_handled 6 = .ok (.iload_n 0, 1) := by decide +kernel
theorem dX12_handled_7 : decode cX12_handled 7 = .ok (.iload_n 1, 1) := by decide +kernel
theorem dX12_handled_8 : decode cX12_handled 8 = .ok (.iload_n 2, 1) := by decide +kernel
theorem dX12_handled_9 : decode cX12_handled 9 = .ok (.iconst 1, 1) := by decide +kernel
theorem dX12_handled_10 : decode cX12_handled 10 = .ok (.ishr, 1) := by decide +kernel
theorem dX12_handled_11 : decode cX12_handled 11 = .ok (.iload_n 2, 1) := by decide +kernel
theorem dX12_handled_12 : decode cX12_handled 12 = .ok (.bipush 8, 2) := by decide +kernel
theorem dX12_handled_14 : decode cX12_handled 14 = .ok (.iand, 1) := by decide +kernel
theorem dX12_handled_15 : decode cX12_handled 15 = .ok (.ior, 1) := by decide +kernel
theorem dX12_handled_16 : decode cX12_handled 16 = .ok (.invokestatic 187, 3) := by decide +kernel
theorem dX12_handled_19 : decode cX12_handled 19 = .ok (.ireturn, 1) := by decide +kernel
theorem dX12_ofHandled_0 : decode cX12_ofHandled 0 = .ok (.aload_n 0, 1) := by decide +kernel
theorem dX12_ofHandled_1 : decode cX12_ofHandled 1 = .ok (.getfield 53, 3) := by decide +kernel
theorem dX12_ofHandled_4 : decode cX12_ofHandled 4 = .ok (.aload_n 0, 1) := by decide +kernel
theorem dX12_ofHandled_5 : decode cX12_ofHandled 5 = .ok (.iload_n 1, 1) := by decide +kernel
theorem dX12_ofHandled_6 : decode cX12_ofHandled 6 = .ok (.iconst 1, 1) := by decide +kernel
theorem dX12_ofHandled_7 : decode cX12_ofHandled 7 = .ok (.invokevirtual 165, 3) := by decide +kernel
theorem dX12_ofHandled_10 : decode cX12_ofHandled 10 = .ok (.iaload, 1) := by decide +kernel
theorem dX12_ofHandled_11 : decode cX12_ofHandled 11 = .ok (.istore_n 2, 1) := by decide +kernel
theorem dX12_ofHandled_12 : decode cX12_ofHandled 12 = .ok (.iconst 0, 1) := by decide +kernel
theorem dX12_ofHandled_13 : decode cX12_ofHandled 13 = .ok (.istore_n 3, 1) := by decide +kernel
theorem dX12_ofHandled_14 : decode cX12_ofHandled 14 = .ok (.iload_n 3, 1) := by decide +kernel
theorem dX12_ofHandled_15 : decode cX12_ofHandled 15 = .ok (.bipush 6, 2) := by decide +kernel
theorem dX12_ofHandled_17 : decode cX12_ofHandled 17 = .ok (.if_icmp .ge 30, 3) := by decide +kernel
theorem dX12_ofHandled_20 : decode cX12_ofHandled 20 = .ok (.aload_n 0, 1) := by decide +kernel
theorem dX12_ofHandled_21 : decode cX12_ofHandled 21 = .ok (.iload_n 1, 1) := by decide +kernel
theorem dX12_ofHandled_22 : decode cX12_ofHandled 22 = .ok (.iload_n 3, 1) := by decide +kernel
theorem dX12_ofHandled_23 : decode cX12_ofHandled 23 = .ok (.invokevirtual 131, 3) := by decide +kernel
theorem dX12_ofHandled_26 : decode cX12_ofHandled 26 = .ok (.bipush (-9), 2) := by decide +kernel
theorem dX12_ofHandled_28 : decode cX12_ofHandled 28 = .ok (.if_icmp .eq 11, 3) := by decide +kernel
theorem dX12_ofHandled_31 : decode cX12_ofHandled 31 = .ok (.iload_n 2, 1) := by decide +kernel
theorem dX12_ofHandled_32 : decode cX12_ofHandled 32 = .ok (.iload_n 3, 1) := by decide +kernel
theorem dX12_ofHandled_33 : decode cX12_ofHandled 33 = .ok (.invokestatic 191, 3) := by decide +kernel
theorem dX12_ofHandled_36 : decode cX12_ofHandled 36 = .ok (.goto 4, 3) := by decide +kernel
theorem dX12_ofHandled_39 : decode cX12_ofHandled 39 = .ok (.iload_n 2, 1) := by decide +kernel
theorem dX12_ofHandled_40 : decode cX12_ofHandled 40 = .ok (.istore_n 2, 1) := by decide +kernel
theorem dX12_ofHandled_41 : decode cX12_ofHandled 41 = .ok (.iinc 3 1, 3) := by decide +kernel
theorem dX12_ofHandled_44 : decode cX12_ofHandled 44 = .ok (.goto (-30), 3) := by decide +kernel
theorem dX12_ofHandled_47 : decode cX12_ofHandled 47 = .ok (.iload_n 2, 1) := by decide +kernel
theorem dX12_ofHandled_48 : decode cX12_ofHandled 48 = .ok (.aload_n 0, 1) := by decide +kernel
theorem dX12_ofHandled_49 : decode cX12_ofHandled 49 = .ok (.getfield 56, 3) := by decide +kernel
theorem dX12_ofHandled_52 : decode cX12_ofHandled 52 = .ok (.aload_n 0, 1) := by decide +kernel
theorem dX12_ofHandled_53 : decode cX12_ofHandled 53 = .ok (.iload_n 1, 1) := by decide +kernel
theorem dX12_ofHandled_54 : decode cX12_ofHandled 54 = .ok (.iconst 1, 1) := by decide +kernel
theorem dX12_ofHandled_55 : decode cX12_ofHandled 55 = .ok (.invokevirtual 165, 3) := by decide +kernel
theorem dX12_ofHandled_58 : decode cX12_ofHandled 58 = .ok (.iaload, 1) := by decide +kernel
theorem dX12_ofHandled_59 : decode cX12_ofHandled 59 = .ok (.ior, 1) := by decide +kernel
theorem dX12_ofHandled_60 : decode cX12_ofHandled 60 = .ok (.ireturn, 1) := by decide +kernel
theorem dX12_leavesBy_0 : decode cX12_leavesBy 0 = .ok (.aload_n 0, 1) := by decide +kernel
theorem dX12_leavesBy_1 : decode cX12_leavesBy 1 = .ok (.iload_n 1, 1) := by decide +kernel
theorem dX12_leavesBy_2 : decode cX12_leavesBy 2 = .ok (.invokevirtual 134, 3) := by decide +kernel
theorem dX12_leavesBy_5 : decode cX12_leavesBy 5 = .ok (.istore_n 2, 1) := by decide +kernel
theorem dX12_leavesBy_6 : decode cX12_leavesBy 6 = .ok (.iload_n 2, 1) := by decide +kernel
theorem dX12_leavesBy_7 : decode cX12_leavesBy 7 = .ok (.iconst 2, 1) := by decide +kernel
theorem dX12_leavesBy_8 : decode cX12_leavesBy 8 = .ok (.if_icmp .ge 5, 3) := by decide +kernel
theorem dX12_leavesBy_11 : decode cX12_leavesBy 11 = .ok (.iconst 0, 1) := by decide +kernel
theorem dX12_leavesBy_12 : decode cX12_leavesBy 12 = .ok (.ireturn, 1) := by decide +kernel
theorem dX12_leavesBy_13 : decode cX12_leavesBy 13 = .ok (.iload_n 2, 1) := by decide +kernel
theorem dX12_leavesBy_14 : decode cX12_leavesBy 14 = .ok (.bipush 16, 2) := by decide +kernel
theorem dX12_leavesBy_16 : decode cX12_leavesBy 16 = .ok (.if_icmp .ne 15, 3) := by decide +kernel
theorem dX12_leavesBy_19 : decode cX12_leavesBy 19 = .ok (.aload_n 0, 1) := by decide +kernel
theorem dX12_leavesBy_20 : decode cX12_leavesBy 20 = .ok (.getfield 53, 3) := by decide +kernel
theorem dX12_leavesBy_23 : decode cX12_leavesBy 23 = .ok (.aload_n 0, 1) := by decide +kernel
theorem dX12_leavesBy_24 : decode cX12_leavesBy 24 = .ok (.iload_n 1, 1) := by decide +kernel
theorem dX12_leavesBy_25 : decode cX12_leavesBy 25 = .ok (.iconst 1, 1) := by decide +kernel
theorem dX12_leavesBy_26 : decode cX12_leavesBy 26 = .ok (.invokevirtual 165, 3) := by decide +kernel
theorem dX12_leavesBy_29 : decode cX12_leavesBy 29 = .ok (.iaload, 1) := by decide +kernel
theorem dX12_leavesBy_30 : decode cX12_leavesBy 30 = .ok (.ireturn, 1) := by decide +kernel
theorem dX12_leavesBy_31 : decode cX12_leavesBy 31 = .ok (.iload_n 2, 1) := by decide +kernel
theorem dX12_leavesBy_32 : decode cX12_leavesBy 32 = .ok (.bipush 15, 2) := by decide +kernel
theorem dX12_leavesBy_34 : decode cX12_leavesBy 34 = .ok (.if_icmp .ne 56, 3) := by decide +kernel
theorem dX12_leavesBy_37 : decode cX12_leavesBy 37 = .ok (.aload_n 0, 1) := by decide +kernel
theorem dX12_leavesBy_38 : decode cX12_leavesBy 38 = .ok (.iload_n 1, 1) := by decide +kernel
theorem dX12_leavesBy_39 : decode cX12_leavesBy 39 = .ok (.invokevirtual 194, 3) := by decide +kernel
theorem dX12_leavesBy_42 : decode cX12_leavesBy 42 = .ok (.istore_n 3, 1) := by decide +kernel
theorem dX12_leavesBy_43 : decode cX12_leavesBy 43 = .ok (.aload_n 0, 1) := by decide +kernel
theorem dX12_leavesBy_44 : decode cX12_leavesBy 44 = .ok (.getfield 8, 3) := by decide +kernel
theorem dX12_leavesBy_47 : decode cX12_leavesBy 47 = .ok (.iconst 5, 1) := by decide +kernel
theorem dX12_leavesBy_48 : decode cX12_leavesBy 48 = .ok (.iload_n 1, 1) := by decide +kernel
theorem dX12_leavesBy_49 : decode cX12_leavesBy 49 = .ok (.imul, 1) := by decide +kernel
theorem dX12_leavesBy_50 : decode cX12_leavesBy 50 = .ok (.iconst 3, 1) := by decide +kernel
theorem dX12_leavesBy_51 : decode cX12_leavesBy 51 = .ok (.iadd, 1) := by decide +kernel
theorem dX12_leavesBy_52 : decode cX12_leavesBy 52 = .ok (.iaload, 1) := by decide +kernel
theorem dX12_leavesBy_53 : decode cX12_leavesBy 53 = .ok (.istore 4, 2) := by decide +kernel
theorem dX12_leavesBy_55 : decode cX12_leavesBy 55 = .ok (.iload 4, 2) := by decide +kernel
theorem dX12_leavesBy_57 : decode cX12_leavesBy 57 = .ok (.bipush (-9), 2) := by decide +kernel
theorem dX12_leavesBy_59 : decode cX12_leavesBy 59 = .ok (.if_icmp .eq 29, 3) := by decide +kernel
theorem dX12_leavesBy_62 : decode cX12_leavesBy 62 = .ok (.iload_n 3, 1) := by decide +kernel
theorem dX12_leavesBy_63 : decode cX12_leavesBy 63 = .ok (.aload_n 0, 1) := by decide +kernel
theorem dX12_leavesBy_64 : decode cX12_leavesBy 64 = .ok (.getfield 53, 3) := by decide +kernel
theorem dX12_leavesBy_67 : decode cX12_leavesBy 67 = .ok (.iload 4, 2) := by decide +kernel
theorem dX12_leavesBy_69 : decode cX12_leavesBy 69 = .ok (.iaload, 1) := by decide +kernel
theorem dX12_leavesBy_70 : decode cX12_leavesBy 70 = .ok (.ior, 1) := by decide +kernel
theorem dX12_leavesBy_71 : decode cX12_leavesBy 71 = .ok (.istore_n 3, 1) := by decide +kernel
theorem dX12_leavesBy_72 : decode cX12_leavesBy 72 = .ok (.aload_n 0, 1) := by decide +kernel
theorem dX12_leavesBy_73 : decode cX12_leavesBy 73 = .ok (.getfield 8, 3) := by decide +kernel
theorem dX12_leavesBy_76 : decode cX12_leavesBy 76 = .ok (.iconst 5, 1) := by decide +kernel
theorem dX12_leavesBy_77 : decode cX12_leavesBy 77 = .ok (.iload 4, 2) := by decide +kernel
theorem dX12_leavesBy_79 : decode cX12_leavesBy 79 = .ok (.imul, 1) := by decide +kernel
theorem dX12_leavesBy_80 : decode cX12_leavesBy 80 = .ok (.iconst 3, 1) := by decide +kernel
theorem dX12_leavesBy_81 : decode cX12_leavesBy 81 = .ok (.iadd, 1) := by decide +kernel
theorem dX12_leavesBy_82 : decode cX12_leavesBy 82 = .ok (.iaload, 1) := by decide +kernel
theorem dX12_leavesBy_83 : decode cX12_leavesBy 83 = .ok (.istore 4, 2) := by decide +kernel
theorem dX12_leavesBy_85 : decode cX12_leavesBy 85 = .ok (.goto (-30), 3) := by decide +kernel
theorem dX12_leavesBy_88 : decode cX12_leavesBy 88 = .ok (.iload_n 3, 1) := by decide +kernel
theorem dX12_leavesBy_89 : decode cX12_leavesBy 89 = .ok (.ireturn, 1) := by decide +kernel
theorem dX12_leavesBy_90 : decode cX12_leavesBy 90 = .ok (.iconst 0, 1) := by decide +kernel
theorem dX12_leavesBy_91 : decode cX12_leavesBy 91 = .ok (.istore_n 3, 1) := by decide +kernel
theorem dX12_leavesBy_92 : decode cX12_leavesBy 92 = .ok (.iconst 1, 1) := by decide +kernel
theorem dX12_leavesBy_93 : decode cX12_leavesBy 93 = .ok (.istore 4, 2) := by decide +kernel
theorem dX12_leavesBy_95 : decode cX12_leavesBy 95 = .ok (.iload 4, 2) := by decide +kernel
theorem dX12_leavesBy_97 : decode cX12_leavesBy 97 = .ok (.iload_n 2, 1) := by decide +kernel
theorem dX12_leavesBy_98 : decode cX12_leavesBy 98 = .ok (.invokestatic 144, 3) := by decide +kernel
theorem dX12_leavesBy_101 : decode cX12_leavesBy 101 = .ok (.if_icmp .gt 24, 3) := by decide +kernel
theorem dX12_leavesBy_104 : decode cX12_leavesBy 104 = .ok (.iload_n 3, 1) := by decide +kernel
theorem dX12_leavesBy_105 : decode cX12_leavesBy 105 = .ok (.aload_n 0, 1) := by decide +kernel
theorem dX12_leavesBy_106 : decode cX12_leavesBy 106 = .ok (.getfield 53, 3) := by decide +kernel
theorem dX12_leavesBy_109 : decode cX12_leavesBy 109 = .ok (.aload_n 0, 1) := by decide +kernel
theorem dX12_leavesBy_110 : decode cX12_leavesBy 110 = .ok (.iload_n 1, 1) := by decide +kernel
theorem dX12_leavesBy_111 : decode cX12_leavesBy 111 = .ok (.iload 4, 2) := by decide +kernel
theorem dX12_leavesBy_113 : decode cX12_leavesBy 113 = .ok (.invokevirtual 165, 3) := by decide +kernel
theorem dX12_leavesBy_116 : decode cX12_leavesBy 116 = .ok (.iaload, 1) := by decide +kernel
theorem dX12_leavesBy_117 : decode cX12_leavesBy 117 = .ok (.ior, 1) := by decide +kernel
theorem dX12_leavesBy_118 : decode cX12_leavesBy 118 = .ok (.istore_n 3, 1) := by decide +kernel
theorem dX12_leavesBy_119 : decode cX12_leavesBy 119 = .ok (.iinc 4 1, 3) := by decide +kernel
theorem dX12_leavesBy_122 : decode cX12_leavesBy 122 = .ok (.goto (-27), 3) := by decide +kernel
theorem dX12_leavesBy_125 : decode cX12_leavesBy 125 = .ok (.iload_n 2, 1) := by decide +kernel
theorem dX12_leavesBy_126 : decode cX12_leavesBy 126 = .ok (.tableswitch 115 10 14 #[34, 46, 115, 56, 97], 34) := by decide +kernel
theorem dX12_leavesBy_160 : decode cX12_leavesBy 160 = .ok (.iload_n 3, 1) := by decide +kernel
theorem dX12_leavesBy_161 : decode cX12_leavesBy 161 = .ok (.iconst 1, 1) := by decide +kernel
theorem dX12_leavesBy_162 : decode cX12_leavesBy 162 = .ok (.iconst 4, 1) := by decide +kernel
theorem dX12_leavesBy_163 : decode cX12_leavesBy 163 = .ok (.aload_n 0, 1) := by decide +kernel
theorem dX12_leavesBy_164 : decode cX12_leavesBy 164 = .ok (.iload_n 1, 1) := by decide +kernel
theorem dX12_leavesBy_165 : decode cX12_leavesBy 165 = .ok (.invokevirtual 137, 3) := by decide +kernel
theorem dX12_leavesBy_168 : decode cX12_leavesBy 168 = .ok (.imul, 1) := by decide +kernel
theorem dX12_leavesBy_169 : decode cX12_leavesBy 169 = .ok (.ishl, 1) := by decide +kernel
theorem dX12_leavesBy_170 : decode cX12_leavesBy 170 = .ok (.ior, 1) := by decide +kernel
theorem dX12_leavesBy_171 : decode cX12_leavesBy 171 = .ok (.ireturn, 1) := by decide +kernel
theorem dX12_leavesBy_172 : decode cX12_leavesBy 172 = .ok (.iload_n 3, 1) := by decide +kernel
theorem dX12_leavesBy_173 : decode cX12_leavesBy 173 = .ok (.aload_n 0, 1) := by decide +kernel
theorem dX12_leavesBy_174 : decode cX12_leavesBy 174 = .ok (.iload_n 1, 1) := by decide +kernel
theorem dX12_leavesBy_175 : decode cX12_leavesBy 175 = .ok (.invokevirtual 137, 3) := by decide +kernel
theorem dX12_leavesBy_178 : decode cX12_leavesBy 178 = .ok (.invokestatic 197, 3) := by decide +kernel
theorem dX12_leavesBy_181 : decode cX12_leavesBy 181 = .ok (.ireturn, 1) := by decide +kernel
theorem dX12_leavesBy_182 : decode cX12_leavesBy 182 = .ok (.iload_n 3, 1) := by decide +kernel
theorem dX12_leavesBy_183 : decode cX12_leavesBy 183 = .ok (.aload_n 0, 1) := by decide +kernel
theorem dX12_leavesBy_184 : decode cX12_leavesBy 184 = .ok (.getfield 14, 3) := by decide +kernel
theorem dX12_leavesBy_187 : decode cX12_leavesBy 187 = .ok (.iconst 1, 1) := by decide +kernel
theorem dX12_leavesBy_188 : decode cX12_leavesBy 188 = .ok (.aload_n 0, 1) := by decide +kernel
theorem dX12_leavesBy_189 : decode cX12_leavesBy 189 = .ok (.iload_n 1, 1) := by decide +kernel
theorem dX12_leavesBy_190 : decode cX12_leavesBy 190 = .ok (.invokevirtual 137, 3) := by decide +kernel
theorem dX12_leavesBy_193 : decode cX12_leavesBy 193 = .ok (.iadd, 1) := by decide +kernel
theorem dX12_leavesBy_194 : decode cX12_leavesBy 194 = .ok (.iaload, 1) := by decide +kernel
theorem dX12_leavesBy_195 : decode cX12_leavesBy 195 = .ok (.bipush (-9), 2) := by decide +kernel
theorem dX12_leavesBy_197 : decode cX12_leavesBy 197 = .ok (.if_icmp .eq 23, 3) := by decide +kernel
theorem dX12_leavesBy_200 : decode cX12_leavesBy 200 = .ok (.aload_n 0, 1) := by decide +kernel
theorem dX12_leavesBy_201 : decode cX12_leavesBy 201 = .ok (.getfield 53, 3) := by decide +kernel
theorem dX12_leavesBy_204 : decode cX12_leavesBy 204 = .ok (.aload_n 0, 1) := by decide +kernel
theorem dX12_leavesBy_205 : decode cX12_leavesBy 205 = .ok (.getfield 14, 3) := by decide +kernel
theorem dX12_leavesBy_208 : decode cX12_leavesBy 208 = .ok (.iconst 1, 1) := by decide +kernel
theorem dX12_leavesBy_209 : decode cX12_leavesBy 209 = .ok (.aload_n 0, 1) := by decide +kernel
theorem dX12_leavesBy_210 : decode cX12_leavesBy 210 = .ok (.iload_n 1, 1) := by decide +kernel
theorem dX12_leavesBy_211 : decode cX12_leavesBy 211 = .ok (.invokevirtual 137, 3) := by decide +kernel
theorem dX12_leavesBy_214 : decode cX12_leavesBy 214 = .ok (.iadd, 1) := by decide +kernel
theorem dX12_leavesBy_215 : decode cX12_leavesBy 215 = .ok (.iaload, 1) := by decide +kernel
theorem dX12_leavesBy_216 : decode cX12_leavesBy 216 = .ok (.iaload, 1) := by decide +kernel
theorem dX12_leavesBy_217 : decode cX12_leavesBy 217 = .ok (.goto 4, 3) := by decide +kernel
theorem dX12_leavesBy_220 : decode cX12_leavesBy 220 = .ok (.iconst 0, 1) := by decide +kernel
theorem dX12_leavesBy_221 : decode cX12_leavesBy 221 = .ok (.ior, 1) := by decide +kernel
theorem dX12_leavesBy_222 : decode cX12_leavesBy 222 = .ok (.ireturn, 1) := by decide +kernel
theorem dX12_leavesBy_223 : decode cX12_leavesBy 223 = .ok (.iload_n 3, 1) := by decide +kernel
theorem dX12_leavesBy_224 : decode cX12_leavesBy 224 = .ok (.aload_n 0, 1) := by decide +kernel
theorem dX12_leavesBy_225 : decode cX12_leavesBy 225 = .ok (.getfield 53, 3) := by decide +kernel
theorem dX12_leavesBy_228 : decode cX12_leavesBy 228 = .ok (.aload_n 0, 1) := by decide +kernel
theorem dX12_leavesBy_229 : decode cX12_leavesBy 229 = .ok (.getfield 8, 3) := by decide +kernel
theorem dX12_leavesBy_232 : decode cX12_leavesBy 232 = .ok (.iconst 5, 1) := by decide +kernel
theorem dX12_leavesBy_233 : decode cX12_leavesBy 233 = .ok (.iload_n 1, 1) := by decide +kernel
theorem dX12_leavesBy_234 : decode cX12_leavesBy 234 = .ok (.imul, 1) := by decide +kernel
theorem dX12_leavesBy_235 : decode cX12_leavesBy 235 = .ok (.iconst 4, 1) := by decide +kernel
theorem dX12_leavesBy_236 : decode cX12_leavesBy 236 = .ok (.iadd, 1) := by decide +kernel
theorem dX12_leavesBy_237 : decode cX12_leavesBy 237 = .ok (.iaload, 1) := by decide +kernel
theorem dX12_leavesBy_238 : decode cX12_leavesBy 238 = .ok (.iaload, 1) := by decide +kernel
theorem dX12_leavesBy_239 : decode cX12_leavesBy 239 = .ok (.ior, 1) := by decide +kernel
theorem dX12_leavesBy_240 : decode cX12_leavesBy 240 = .ok (.ireturn, 1) := by decide +kernel
theorem dX12_leavesBy_241 : decode cX12_leavesBy 241 = .ok (.iload_n 3, 1) := by decide +kernel
theorem dX12_leavesBy_242 : decode cX12_leavesBy 242 = .ok (.ireturn, 1) := by decide +kernel
theorem dX12_lateBy_0 : decode cX12_lateBy 0 = .ok (.aload_n 0, 1) := by decide +kernel
theorem dX12_lateBy_1 : decode cX12_lateBy 1 = .ok (.iload_n 1, 1) := by decide +kernel
theorem dX12_lateBy_2 : decode cX12_lateBy 2 = .ok (.invokevirtual 134, 3) := by decide +kernel
theorem dX12_lateBy_5 : decode cX12_lateBy 5 = .ok (.istore_n 2, 1) := by decide +kernel
theorem dX12_lateBy_6 : decode cX12_lateBy 6 = .ok (.iload_n 2, 1) := by decide +kernel
theorem dX12_lateBy_7 : decode cX12_lateBy 7 = .ok (.iconst 2, 1) := by decide +kernel
theorem dX12_lateBy_8 : decode cX12_lateBy 8 = .ok (.if_icmp .ge 5, 3) := by decide +kernel
theorem dX12_lateBy_11 : decode cX12_lateBy 11 = .ok (.iconst 0, 1) := by decide +kernel
theorem dX12_lateBy_12 : decode cX12_lateBy 12 = .ok (.ireturn, 1) := by decide +kernel
theorem dX12_lateBy_13 : decode cX12_lateBy 13 = .ok (.aload_n 0, 1) := by decide +kernel
theorem dX12_lateBy_14 : decode cX12_lateBy 14 = .ok (.getfield 56, 3) := by decide +kernel
theorem dX12_lateBy_17 : decode cX12_lateBy 17 = .ok (.aload_n 0, 1) := by decide +kernel
theorem dX12_lateBy_18 : decode cX12_lateBy 18 = .ok (.iload_n 1, 1) := by decide +kernel
theorem dX12_lateBy_19 : decode cX12_lateBy 19 = .ok (.iconst 1, 1) := by decide +kernel
theorem dX12_lateBy_20 : decode cX12_lateBy 20 = .ok (.invokevirtual 165, 3) := by decide +kernel
theorem dX12_lateBy_23 : decode cX12_lateBy 23 = .ok (.iaload, 1) := by decide +kernel
theorem dX12_lateBy_24 : decode cX12_lateBy 24 = .ok (.istore_n 3, 1) := by decide +kernel
theorem dX12_lateBy_25 : decode cX12_lateBy 25 = .ok (.iload_n 2, 1) := by decide +kernel
theorem dX12_lateBy_26 : decode cX12_lateBy 26 = .ok (.bipush 15, 2) := by decide +kernel
theorem dX12_lateBy_28 : decode cX12_lateBy 28 = .ok (.if_icmp .ne 50, 3) := by decide +kernel
theorem dX12_lateBy_31 : decode cX12_lateBy 31 = .ok (.aload_n 0, 1) := by decide +kernel
theorem dX12_lateBy_32 : decode cX12_lateBy 32 = .ok (.getfield 8, 3) := by decide +kernel
theorem dX12_lateBy_35 : decode cX12_lateBy 35 = .ok (.iconst 5, 1) := by decide +kernel
theorem dX12_lateBy_36 : decode cX12_lateBy 36 = .ok (.iload_n 1, 1) := by decide +kernel
theorem dX12_lateBy_37 : decode cX12_lateBy 37 = .ok (.imul, 1) := by decide +kernel
theorem dX12_lateBy_38 : decode cX12_lateBy 38 = .ok (.iconst 3, 1) := by decide +kernel
theorem dX12_lateBy_39 : decode cX12_lateBy 39 = .ok (.iadd, 1) := by decide +kernel
theorem dX12_lateBy_40 : decode cX12_lateBy 40 = .ok (.iaload, 1) := by decide +kernel
theorem dX12_lateBy_41 : decode cX12_lateBy 41 = .ok (.istore 4, 2) := by decide +kernel
theorem dX12_lateBy_43 : decode cX12_lateBy 43 = .ok (.iload 4, 2) := by decide +kernel
theorem dX12_lateBy_45 : decode cX12_lateBy 45 = .ok (.bipush (-9), 2) := by decide +kernel
theorem dX12_lateBy_47 : decode cX12_lateBy 47 = .ok (.if_icmp .eq 29, 3) := by decide +kernel
theorem dX12_lateBy_50 : decode cX12_lateBy 50 = .ok (.iload_n 3, 1) := by decide +kernel
theorem dX12_lateBy_51 : decode cX12_lateBy 51 = .ok (.aload_n 0, 1) := by decide +kernel
theorem dX12_lateBy_52 : decode cX12_lateBy 52 = .ok (.getfield 56, 3) := by decide +kernel
theorem dX12_lateBy_55 : decode cX12_lateBy 55 = .ok (.iload 4, 2) := by decide +kernel
theorem dX12_lateBy_57 : decode cX12_lateBy 57 = .ok (.iaload, 1) := by decide +kernel
theorem dX12_lateBy_58 : decode cX12_lateBy 58 = .ok (.ior, 1) := by decide +kernel
theorem dX12_lateBy_59 : decode cX12_lateBy 59 = .ok (.istore_n 3, 1) := by decide +kernel
theorem dX12_lateBy_60 : decode cX12_lateBy 60 = .ok (.aload_n 0, 1) := by decide +kernel
theorem dX12_lateBy_61 : decode cX12_lateBy 61 = .ok (.getfield 8, 3) := by decide +kernel
theorem dX12_lateBy_64 : decode cX12_lateBy 64 = .ok (.iconst 5, 1) := by decide +kernel
theorem dX12_lateBy_65 : decode cX12_lateBy 65 = .ok (.iload 4, 2) := by decide +kernel
theorem dX12_lateBy_67 : decode cX12_lateBy 67 = .ok (.imul, 1) := by decide +kernel
theorem dX12_lateBy_68 : decode cX12_lateBy 68 = .ok (.iconst 3, 1) := by decide +kernel
theorem dX12_lateBy_69 : decode cX12_lateBy 69 = .ok (.iadd, 1) := by decide +kernel
theorem dX12_lateBy_70 : decode cX12_lateBy 70 = .ok (.iaload, 1) := by decide +kernel
theorem dX12_lateBy_71 : decode cX12_lateBy 71 = .ok (.istore 4, 2) := by decide +kernel
theorem dX12_lateBy_73 : decode cX12_lateBy 73 = .ok (.goto (-30), 3) := by decide +kernel
theorem dX12_lateBy_76 : decode cX12_lateBy 76 = .ok (.iload_n 3, 1) := by decide +kernel
theorem dX12_lateBy_77 : decode cX12_lateBy 77 = .ok (.ireturn, 1) := by decide +kernel
theorem dX12_lateBy_78 : decode cX12_lateBy 78 = .ok (.iconst 2, 1) := by decide +kernel
theorem dX12_lateBy_79 : decode cX12_lateBy 79 = .ok (.istore 4, 2) := by decide +kernel
theorem dX12_lateBy_81 : decode cX12_lateBy 81 = .ok (.iload_n 2, 1) := by decide +kernel
theorem dX12_lateBy_82 : decode cX12_lateBy 82 = .ok (.bipush 16, 2) := by decide +kernel
theorem dX12_lateBy_84 : decode cX12_lateBy 84 = .ok (.if_icmp .eq 33, 3) := by decide +kernel
theorem dX12_lateBy_87 : decode cX12_lateBy 87 = .ok (.iload 4, 2) := by decide +kernel
theorem dX12_lateBy_89 : decode cX12_lateBy 89 = .ok (.iload_n 2, 1) := by decide +kernel
theorem dX12_lateBy_90 : decode cX12_lateBy 90 = .ok (.invokestatic 144, 3) := by decide +kernel
theorem dX12_lateBy_93 : decode cX12_lateBy 93 = .ok (.if_icmp .gt 24, 3) := by decide +kernel
theorem dX12_lateBy_96 : decode cX12_lateBy 96 = .ok (.iload_n 3, 1) := by decide +kernel
theorem dX12_lateBy_97 : decode cX12_lateBy 97 = .ok (.aload_n 0, 1) := by decide +kernel
theorem dX12_lateBy_98 : decode cX12_lateBy 98 = .ok (.getfield 56, 3) := by decide +kernel
theorem dX12_lateBy_101 : decode cX12_lateBy 101 = .ok (.aload_n 0, 1) := by decide +kernel
theorem dX12_lateBy_102 : decode cX12_lateBy 102 = .ok (.iload_n 1, 1) := by decide +kernel
theorem dX12_lateBy_103 : decode cX12_lateBy 103 = .ok (.iload 4, 2) := by decide +kernel
theorem dX12_lateBy_105 : decode cX12_lateBy 105 = .ok (.invokevirtual 165, 3) := by decide +kernel
theorem dX12_lateBy_108 : decode cX12_lateBy 108 = .ok (.iaload, 1) := by decide +kernel
theorem dX12_lateBy_109 : decode cX12_lateBy 109 = .ok (.ior, 1) := by decide +kernel
theorem dX12_lateBy_110 : decode cX12_lateBy 110 = .ok (.istore_n 3, 1) := by decide +kernel
theorem dX12_lateBy_111 : decode cX12_lateBy 111 = .ok (.iinc 4 1, 3) := by decide +kernel
theorem dX12_lateBy_114 : decode cX12_lateBy 114 = .ok (.goto (-33), 3) := by decide +kernel
theorem dX12_lateBy_117 : decode cX12_lateBy 117 = .ok (.iload_n 2, 1) := by decide +kernel
theorem dX12_lateBy_118 : decode cX12_lateBy 118 = .ok (.tableswitch 99 12 14 #[26, 40, 81], 26) := by decide +kernel
theorem dX12_lateBy_144 : decode cX12_lateBy 144 = .ok (.iload_n 3, 1) := by decide +kernel
theorem dX12_lateBy_145 : decode cX12_lateBy 145 = .ok (.aload_n 0, 1) := by decide +kernel
theorem dX12_lateBy_146 : decode cX12_lateBy 146 = .ok (.getfield 53, 3) := by decide +kernel
theorem dX12_lateBy_149 : decode cX12_lateBy 149 = .ok (.aload_n 0, 1) := by decide +kernel
theorem dX12_lateBy_150 : decode cX12_lateBy 150 = .ok (.iload_n 1, 1) := by decide +kernel
theorem dX12_lateBy_151 : decode cX12_lateBy 151 = .ok (.iconst 2, 1) := by decide +kernel
theorem dX12_lateBy_152 : decode cX12_lateBy 152 = .ok (.invokevirtual 165, 3) := by decide +kernel
theorem dX12_lateBy_155 : decode cX12_lateBy 155 = .ok (.iaload, 1) := by decide +kernel
theorem dX12_lateBy_156 : decode cX12_lateBy 156 = .ok (.ior, 1) := by decide +kernel
theorem dX12_lateBy_157 : decode cX12_lateBy 157 = .ok (.ireturn, 1) := by decide +kernel
theorem dX12_lateBy_158 : decode cX12_lateBy 158 = .ok (.iload_n 3, 1) := by decide +kernel
theorem dX12_lateBy_159 : decode cX12_lateBy 159 = .ok (.aload_n 0, 1) := by decide +kernel
theorem dX12_lateBy_160 : decode cX12_lateBy 160 = .ok (.getfield 14, 3) := by decide +kernel
theorem dX12_lateBy_163 : decode cX12_lateBy 163 = .ok (.iconst 1, 1) := by decide +kernel
theorem dX12_lateBy_164 : decode cX12_lateBy 164 = .ok (.aload_n 0, 1) := by decide +kernel
theorem dX12_lateBy_165 : decode cX12_lateBy 165 = .ok (.iload_n 1, 1) := by decide +kernel
theorem dX12_lateBy_166 : decode cX12_lateBy 166 = .ok (.invokevirtual 137, 3) := by decide +kernel
theorem dX12_lateBy_169 : decode cX12_lateBy 169 = .ok (.iadd, 1) := by decide +kernel
theorem dX12_lateBy_170 : decode cX12_lateBy 170 = .ok (.iaload, 1) := by decide +kernel
theorem dX12_lateBy_171 : decode cX12_lateBy 171 = .ok (.bipush (-9), 2) := by decide +kernel
theorem dX12_lateBy_173 : decode cX12_lateBy 173 = .ok (.if_icmp .eq 23, 3) := by decide +kernel
theorem dX12_lateBy_176 : decode cX12_lateBy 176 = .ok (.aload_n 0, 1) := by decide +kernel
theorem dX12_lateBy_177 : decode cX12_lateBy 177 = .ok (.getfield 56, 3) := by decide +kernel
theorem dX12_lateBy_180 : decode cX12_lateBy 180 = .ok (.aload_n 0, 1) := by decide +kernel
theorem dX12_lateBy_181 : decode cX12_lateBy 181 = .ok (.getfield 14, 3) := by decide +kernel
theorem dX12_lateBy_184 : decode cX12_lateBy 184 = .ok (.iconst 1, 1) := by decide +kernel
theorem dX12_lateBy_185 : decode cX12_lateBy 185 = .ok (.aload_n 0, 1) := by decide +kernel
theorem dX12_lateBy_186 : decode cX12_lateBy 186 = .ok (.iload_n 1, 1) := by decide +kernel
theorem dX12_lateBy_187 : decode cX12_lateBy 187 = .ok (.invokevirtual 137, 3) := by decide +kernel
theorem dX12_lateBy_190 : decode cX12_lateBy 190 = .ok (.iadd, 1) := by decide +kernel
theorem dX12_lateBy_191 : decode cX12_lateBy 191 = .ok (.iaload, 1) := by decide +kernel
theorem dX12_lateBy_192 : decode cX12_lateBy 192 = .ok (.iaload, 1) := by decide +kernel
theorem dX12_lateBy_193 : decode cX12_lateBy 193 = .ok (.goto 4, 3) := by decide +kernel
theorem dX12_lateBy_196 : decode cX12_lateBy 196 = .ok (.iconst 0, 1) := by decide +kernel
theorem dX12_lateBy_197 : decode cX12_lateBy 197 = .ok (.ior, 1) := by decide +kernel
theorem dX12_lateBy_198 : decode cX12_lateBy 198 = .ok (.ireturn, 1) := by decide +kernel
theorem dX12_lateBy_199 : decode cX12_lateBy 199 = .ok (.iload_n 3, 1) := by decide +kernel
theorem dX12_lateBy_200 : decode cX12_lateBy 200 = .ok (.aload_n 0, 1) := by decide +kernel
theorem dX12_lateBy_201 : decode cX12_lateBy 201 = .ok (.getfield 56, 3) := by decide +kernel
theorem dX12_lateBy_204 : decode cX12_lateBy 204 = .ok (.aload_n 0, 1) := by decide +kernel
theorem dX12_lateBy_205 : decode cX12_lateBy 205 = .ok (.getfield 8, 3) := by decide +kernel
theorem dX12_lateBy_208 : decode cX12_lateBy 208 = .ok (.iconst 5, 1) := by decide +kernel
theorem dX12_lateBy_209 : decode cX12_lateBy 209 = .ok (.iload_n 1, 1) := by decide +kernel
theorem dX12_lateBy_210 : decode cX12_lateBy 210 = .ok (.imul, 1) := by decide +kernel
theorem dX12_lateBy_211 : decode cX12_lateBy 211 = .ok (.iconst 4, 1) := by decide +kernel
theorem dX12_lateBy_212 : decode cX12_lateBy 212 = .ok (.iadd, 1) := by decide +kernel
theorem dX12_lateBy_213 : decode cX12_lateBy 213 = .ok (.iaload, 1) := by decide +kernel
theorem dX12_lateBy_214 : decode cX12_lateBy 214 = .ok (.iaload, 1) := by decide +kernel
theorem dX12_lateBy_215 : decode cX12_lateBy 215 = .ok (.ior, 1) := by decide +kernel
theorem dX12_lateBy_216 : decode cX12_lateBy 216 = .ok (.ireturn, 1) := by decide +kernel
