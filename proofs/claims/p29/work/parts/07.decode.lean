theorem dX0_init_0 : decode cX0_init 0 = .ok (.aload_n 0, 1) := by decide +kernel
theorem dX0_init_1 : decode cX0_init 1 = .ok (.invokespecial 3, 3) := by decide +kernel
theorem dX0_init_4 : decode cX0_init 4 = .ok (.aload_n 0, 1) := by decide +kernel
theorem dX0_init_5 : decode cX0_init 5 = .ok (.bipush 6, 2) := by decide +kernel
theorem dX0_init_7 : decode cX0_init 7 = .ok (.newarray .long, 2) := by decide +kernel
theorem dX0_init_9 : decode cX0_init 9 = .ok (.putfield 9, 3) := by decide +kernel
theorem dX0_init_12 : decode cX0_init 12 = .ok (.aload_n 0, 1) := by decide +kernel
theorem dX0_init_13 : decode cX0_init 13 = .ok (.iconst 0, 1) := by decide +kernel
theorem dX0_init_14 : decode cX0_init 14 = .ok (.putfield 15, 3) := by decide +kernel
theorem dX0_init_17 : decode cX0_init 17 = .ok (.return_, 1) := by decide +kernel
theorem dX0_add_0 : decode cX0_add 0 = .ok (.iconst 5, 1) := by decide +kernel
theorem dX0_add_1 : decode cX0_add 1 = .ok (.istore_n 3, 1) := by decide +kernel
theorem dX0_add_2 : decode cX0_add 2 = .ok (.iload_n 3, 1) := by decide +kernel
theorem dX0_add_3 : decode cX0_add 3 = .ok (.ifCond .le 23, 3) := by decide +kernel
theorem dX0_add_6 : decode cX0_add 6 = .ok (.aload_n 0, 1) := by decide +kernel
theorem dX0_add_7 : decode cX0_add 7 = .ok (.getfield 9, 3) := by decide +kernel
theorem dX0_add_10 : decode cX0_add 10 = .ok (.iload_n 3, 1) := by decide +kernel
theorem dX0_add_11 : decode cX0_add 11 = .ok (.aload_n 0, 1) := by decide +kernel
theorem dX0_add_12 : decode cX0_add 12 = .ok (.getfield 9, 3) := by decide +kernel
theorem dX0_add_15 : decode cX0_add 15 = .ok (.iload_n 3, 1) := by decide +kernel
theorem dX0_add_16 : decode cX0_add 16 = .ok (.iconst 1, 1) := by decide +kernel
theorem dX0_add_17 : decode cX0_add 17 = .ok (.isub, 1) := by decide +kernel
theorem dX0_add_18 : decode cX0_add 18 = .ok (.laload, 1) := by decide +kernel
theorem dX0_add_19 : decode cX0_add 19 = .ok (.lastore, 1) := by decide +kernel
theorem dX0_add_20 : decode cX0_add 20 = .ok (.iinc 3 (-1), 3) := by decide +kernel
theorem dX0_add_23 : decode cX0_add 23 = .ok (.goto (-21), 3) := by decide +kernel
theorem dX0_add_26 : decode cX0_add 26 = .ok (.aload_n 0, 1) := by decide +kernel
theorem dX0_add_27 : decode cX0_add 27 = .ok (.getfield 9, 3) := by decide +kernel
theorem dX0_add_30 : decode cX0_add 30 = .ok (.iconst 0, 1) := by decide +kernel
theorem dX0_add_31 : decode cX0_add 31 = .ok (.lload_n 1, 1) := by decide +kernel
theorem dX0_add_32 : decode cX0_add 32 = .ok (.lastore, 1) := by decide +kernel
theorem dX0_add_33 : decode cX0_add 33 = .ok (.aload_n 0, 1) := by decide +kernel
theorem dX0_add_34 : decode cX0_add 34 = .ok (.aload_n 0, 1) := by decide +kernel
theorem dX0_add_35 : decode cX0_add 35 = .ok (.getfield 15, 3) := by decide +kernel
theorem dX0_add_38 : decode cX0_add 38 = .ok (.iconst 1, 1) := by decide +kernel
theorem dX0_add_39 : decode cX0_add 39 = .ok (.iadd, 1) := by decide +kernel
theorem dX0_add_40 : decode cX0_add 40 = .ok (.bipush 6, 2) := by decide +kernel
theorem dX0_add_42 : decode cX0_add 42 = .ok (.invokestatic 19, 3) := by decide +kernel
theorem dX0_add_45 : decode cX0_add 45 = .ok (.putfield 15, 3) := by decide +kernel
theorem dX0_add_48 : decode cX0_add 48 = .ok (.return_, 1) := by decide +kernel
theorem dX1_init_0 : decode cX1_init 0 = .ok (.aload_n 0, 1) := by decide +kernel
theorem dX1_init_1 : decode cX1_init 1 = .ok (.invokespecial 3, 3) := by decide +kernel
theorem dX1_init_4 : decode cX1_init 4 = .ok (.aload_n 0, 1) := by decide +kernel
theorem dX1_init_5 : decode cX1_init 5 = .ok (.bipush 32, 2) := by decide +kernel
theorem dX1_init_7 : decode cX1_init 7 = .ok (.newarray .int, 2) := by decide +kernel
theorem dX1_init_9 : decode cX1_init 9 = .ok (.putfield 9, 3) := by decide +kernel
theorem dX1_init_12 : decode cX1_init 12 = .ok (.aload_n 0, 1) := by decide +kernel
theorem dX1_init_13 : decode cX1_init 13 = .ok (.bipush 32, 2) := by decide +kernel
theorem dX1_init_15 : decode cX1_init 15 = .ok (.newarray .long, 2) := by decide +kernel
theorem dX1_init_17 : decode cX1_init 17 = .ok (.putfield 15, 3) := by decide +kernel
theorem dX1_init_20 : decode cX1_init 20 = .ok (.aload_n 0, 1) := by decide +kernel
theorem dX1_init_21 : decode cX1_init 21 = .ok (.bipush 32, 2) := by decide +kernel
theorem dX1_init_23 : decode cX1_init 23 = .ok (.newarray .int, 2) := by decide +kernel
theorem dX1_init_25 : decode cX1_init 25 = .ok (.putfield 19, 3) := by decide +kernel
theorem dX1_init_28 : decode cX1_init 28 = .ok (.aload_n 0, 1) := by decide +kernel
theorem dX1_init_29 : decode cX1_init 29 = .ok (.bipush 32, 2) := by decide +kernel
theorem dX1_init_31 : decode cX1_init 31 = .ok (.newarray .int, 2) := by decide +kernel
theorem dX1_init_33 : decode cX1_init 33 = .ok (.putfield 22, 3) := by decide +kernel
theorem dX1_init_36 : decode cX1_init 36 = .ok (.aload_n 0, 1) := by decide +kernel
theorem dX1_init_37 : decode cX1_init 37 = .ok (.iconst 0, 1) := by decide +kernel
theorem dX1_init_38 : decode cX1_init 38 = .ok (.putfield 25, 3) := by decide +kernel
theorem dX1_init_41 : decode cX1_init 41 = .ok (.aload_n 0, 1) := by decide +kernel
theorem dX1_init_42 : decode cX1_init 42 = .ok (.iconst 0, 1) := by decide +kernel
theorem dX1_init_43 : decode cX1_init 43 = .ok (.putfield 29, 3) := by decide +kernel
theorem dX1_init_46 : decode cX1_init 46 = .ok (.return_, 1) := by decide +kernel
theorem dX1_placeOf_0 : decode cX1_placeOf 0 = .ok (.ldc2_w 32, 3) := by decide +kernel
theorem dX1_placeOf_3 : decode cX1_placeOf 3 = .ok (.iload_n 0, 1) := by decide +kernel
theorem dX1_placeOf_4 : decode cX1_placeOf 4 = .ok (.i2l, 1) := by decide +kernel
theorem dX1_placeOf_5 : decode cX1_placeOf 5 = .ok (.lmul, 1) := by decide +kernel
theorem dX1_placeOf_6 : decode cX1_placeOf 6 = .ok (.ldc2_w 34, 3) := by decide +kernel
theorem dX1_placeOf_9 : decode cX1_placeOf 9 = .ok (.lload_n 1, 1) := by decide +kernel
theorem dX1_placeOf_10 : decode cX1_placeOf 10 = .ok (.lmul, 1) := by decide +kernel
theorem dX1_placeOf_11 : decode cX1_placeOf 11 = .ok (.ladd, 1) := by decide +kernel
theorem dX1_placeOf_12 : decode cX1_placeOf 12 = .ok (.iload_n 3, 1) := by decide +kernel
theorem dX1_placeOf_13 : decode cX1_placeOf 13 = .ok (.i2l, 1) := by decide +kernel
theorem dX1_placeOf_14 : decode cX1_placeOf 14 = .ok (.ladd, 1) := by decide +kernel
theorem dX1_placeOf_15 : decode cX1_placeOf 15 = .ok (.ldc2_w 32, 3) := by decide +kernel
theorem dX1_placeOf_18 : decode cX1_placeOf 18 = .ok (.land, 1) := by decide +kernel
theorem dX1_placeOf_19 : decode cX1_placeOf 19 = .ok (.l2i, 1) := by decide +kernel
theorem dX1_placeOf_20 : decode cX1_placeOf 20 = .ok (.ireturn, 1) := by decide +kernel
theorem dX1_holds_0 : decode cX1_holds 0 = .ok (.aload_n 0, 1) := by decide +kernel
theorem dX1_holds_1 : decode cX1_holds 1 = .ok (.getfield 9, 3) := by decide +kernel
theorem dX1_holds_4 : decode cX1_holds 4 = .ok (.iload_n 1, 1) := by decide +kernel
theorem dX1_holds_5 : decode cX1_holds 5 = .ok (.iaload, 1) := by decide +kernel
theorem dX1_holds_6 : decode cX1_holds 6 = .ok (.iload_n 2, 1) := by decide +kernel
theorem dX1_holds_7 : decode cX1_holds 7 = .ok (.if_icmp .ne 29, 3) := by decide +kernel
theorem dX1_holds_10 : decode cX1_holds 10 = .ok (.aload_n 0, 1) := by decide +kernel
theorem dX1_holds_11 : decode cX1_holds 11 = .ok (.getfield 15, 3) := by decide +kernel
theorem dX1_holds_14 : decode cX1_holds 14 = .ok (.iload_n 1, 1) := by decide +kernel
theorem dX1_holds_15 : decode cX1_holds 15 = .ok (.laload, 1) := by decide +kernel
theorem dX1_holds_16 : decode cX1_holds 16 = .ok (.lload_n 3, 1) := by decide +kernel
theorem dX1_holds_17 : decode cX1_holds 17 = .ok (.lcmp, 1) := by decide +kernel
theorem dX1_holds_18 : decode cX1_holds 18 = .ok (.ifCond .ne 18, 3) := by decide +kernel
theorem dX1_holds_21 : decode cX1_holds 21 = .ok (.aload_n 0, 1) := by decide +kernel
theorem dX1_holds_22 : decode cX1_holds 22 = .ok (.getfield 19, 3) := by decide +kernel
theorem dX1_holds_25 : decode cX1_holds 25 = .ok (.iload_n 1, 1) := by decide +kernel
theorem dX1_holds_26 : decode cX1_holds 26 = .ok (.iaload, 1) := by decide +kernel
theorem dX1_holds_27 : decode cX1_holds 27 = .ok (.iload 5, 2) := by decide +kernel
theorem dX1_holds_29 : decode cX1_holds 29 = .ok (.if_icmp .ne 7, 3) := by decide +kernel
theorem dX1_holds_32 : decode cX1_holds 32 = .ok (.iconst 1, 1) := by decide +kernel
theorem dX1_holds_33 : decode cX1_holds 33 = .ok (.goto 4, 3) := by decide +kernel
theorem dX1_holds_36 : decode cX1_holds 36 = .ok (.iconst 0, 1) := by decide +kernel
theorem dX1_holds_37 : decode cX1_holds 37 = .ok (.ireturn, 1) := by decide +kernel
theorem dX1_put_0 : decode cX1_put 0 = .ok (.aload_n 0, 1) := by decide +kernel
theorem dX1_put_1 : decode cX1_put 1 = .ok (.getfield 9, 3) := by decide +kernel
theorem dX1_put_4 : decode cX1_put 4 = .ok (.iload_n 1, 1) := by decide +kernel
theorem dX1_put_5 : decode cX1_put 5 = .ok (.iload_n 2, 1) := by decide +kernel
theorem dX1_put_6 : decode cX1_put 6 = .ok (.iastore, 1) := by decide +kernel
theorem dX1_put_7 : decode cX1_put 7 = .ok (.aload_n 0, 1) := by decide +kernel
theorem dX1_put_8 : decode cX1_put 8 = .ok (.getfield 15, 3) := by decide +kernel
theorem dX1_put_11 : decode cX1_put 11 = .ok (.iload_n 1, 1) := by decide +kernel
theorem dX1_put_12 : decode cX1_put 12 = .ok (.lload_n 3, 1) := by decide +kernel
theorem dX1_put_13 : decode cX1_put 13 = .ok (.lastore, 1) := by decide +kernel
theorem dX1_put_14 : decode cX1_put 14 = .ok (.aload_n 0, 1) := by decide +kernel
theorem dX1_put_15 : decode cX1_put 15 = .ok (.getfield 19, 3) := by decide +kernel
theorem dX1_put_18 : decode cX1_put 18 = .ok (.iload_n 1, 1) := by decide +kernel
theorem dX1_put_19 : decode cX1_put 19 = .ok (.iload 5, 2) := by decide +kernel
theorem dX1_put_21 : decode cX1_put 21 = .ok (.iastore, 1) := by decide +kernel
theorem dX1_put_22 : decode cX1_put 22 = .ok (.aload_n 0, 1) := by decide +kernel
theorem dX1_put_23 : decode cX1_put 23 = .ok (.getfield 22, 3) := by decide +kernel
theorem dX1_put_26 : decode cX1_put 26 = .ok (.iload_n 1, 1) := by decide +kernel
theorem dX1_put_27 : decode cX1_put 27 = .ok (.iload 6, 2) := by decide +kernel
theorem dX1_put_29 : decode cX1_put 29 = .ok (.iastore, 1) := by decide +kernel
theorem dX1_put_30 : decode cX1_put 30 = .ok (.return_, 1) := by decide +kernel
theorem dX2_init_0 : decode cX2_init 0 = .ok (.aload_n 0, 1) := by decide +kernel
theorem dX2_init_1 : decode cX2_init 1 = .ok (.invokespecial 3, 3) := by decide +kernel
theorem dX2_init_4 : decode cX2_init 4 = .ok (.aload_n 0, 1) := by decide +kernel
theorem dX2_init_5 : decode cX2_init 5 = .ok (.bipush 6, 2) := by decide +kernel
theorem dX2_init_7 : decode cX2_init 7 = .ok (.bipush 12, 2) := by decide +kernel
theorem dX2_init_9 : decode cX2_init 9 = .ok (.multianewarray 9 2, 4) := by decide +kernel
theorem dX2_init_13 : decode cX2_init 13 = .ok (.putfield 11, 3) := by decide +kernel
theorem dX2_init_16 : decode cX2_init 16 = .ok (.aload_n 0, 1) := by decide +kernel
theorem dX2_init_17 : decode cX2_init 17 = .ok (.bipush 6, 2) := by decide +kernel
theorem dX2_init_19 : decode cX2_init 19 = .ok (.bipush 12, 2) := by decide +kernel
theorem dX2_init_21 : decode cX2_init 21 = .ok (.multianewarray 9 2, 4) := by decide +kernel
theorem dX2_init_25 : decode cX2_init 25 = .ok (.putfield 16, 3) := by decide +kernel
theorem dX2_init_28 : decode cX2_init 28 = .ok (.aload_n 0, 1) := by decide +kernel
theorem dX2_init_29 : decode cX2_init 29 = .ok (.bipush 7, 2) := by decide +kernel
theorem dX2_init_31 : decode cX2_init 31 = .ok (.newarray .int, 2) := by decide +kernel
theorem dX2_init_33 : decode cX2_init 33 = .ok (.putfield 19, 3) := by decide +kernel
theorem dX2_init_36 : decode cX2_init 36 = .ok (.aload_n 0, 1) := by decide +kernel
theorem dX2_init_37 : decode cX2_init 37 = .ok (.iconst (-1), 1) := by decide +kernel
theorem dX2_init_38 : decode cX2_init 38 = .ok (.putfield 23, 3) := by decide +kernel
theorem dX2_init_41 : decode cX2_init 41 = .ok (.return_, 1) := by decide +kernel
theorem dX2_workOut_0 : decode cX2_workOut 0 = .ok (.aload_n 0, 1) := by decide +kernel
theorem dX2_workOut_1 : decode cX2_workOut 1 = .ok (.iconst (-1), 1) := by decide +kernel
theorem dX2_workOut_2 : decode cX2_workOut 2 = .ok (.putfield 23, 3) := by decide +kernel
theorem dX2_workOut_5 : decode cX2_workOut 5 = .ok (.aload_n 2, 1) := by decide +kernel
theorem dX2_workOut_6 : decode cX2_workOut 6 = .ok (.getfield 27, 3) := by decide +kernel
theorem dX2_workOut_9 : decode cX2_workOut 9 = .ok (.ifCond .ne 5, 3) := by decide +kernel
theorem dX2_workOut_12 : decode cX2_workOut 12 = .ok (.iconst 0, 1) := by decide +kernel
theorem dX2_workOut_13 : decode cX2_workOut 13 = .ok (.ireturn, 1) := by decide +kernel
theorem dX2_workOut_14 : decode cX2_workOut 14 = .ok (.aload_n 2, 1) := by decide +kernel
theorem dX2_workOut_15 : decode cX2_workOut 15 = .ok (.getfield 27, 3) := by decide +kernel
theorem dX2_workOut_18 : decode cX2_workOut 18 = .ok (.iconst 1, 1) := by decide +kernel
theorem dX2_workOut_19 : decode cX2_workOut 19 = .ok (.isub, 1) := by decide +kernel
theorem dX2_workOut_20 : decode cX2_workOut 20 = .ok (.istore 4, 2) := by decide +kernel
theorem dX2_workOut_22 : decode cX2_workOut 22 = .ok (.iload 4, 2) := by decide +kernel
theorem dX2_workOut_24 : decode cX2_workOut 24 = .ok (.ifCond .lt 18, 3) := by decide +kernel
theorem dX2_workOut_27 : decode cX2_workOut 27 = .ok (.aload_n 0, 1) := by decide +kernel
theorem dX2_workOut_28 : decode cX2_workOut 28 = .ok (.aload_n 1, 1) := by decide +kernel
theorem dX2_workOut_29 : decode cX2_workOut 29 = .ok (.aload_n 2, 1) := by decide +kernel
theorem dX2_workOut_30 : decode cX2_workOut 30 = .ok (.iload 4, 2) := by decide +kernel
theorem dX2_workOut_32 : decode cX2_workOut 32 = .ok (.aload_n 3, 1) := by decide +kernel
theorem dX2_workOut_33 : decode cX2_workOut 33 = .ok (.invokevirtual 32, 3) := by decide +kernel
theorem dX2_workOut_36 : decode cX2_workOut 36 = .ok (.iinc 4 (-1), 3) := by decide +kernel
theorem dX2_workOut_39 : decode cX2_workOut 39 = .ok (.goto (-17), 3) := by decide +kernel
theorem dX2_workOut_42 : decode cX2_workOut 42 = .ok (.bipush (-4), 2) := by decide +kernel
theorem dX2_workOut_44 : decode cX2_workOut 44 = .ok (.istore 4, 2) := by decide +kernel
theorem dX2_workOut_46 : decode cX2_workOut 46 = .ok (.iconst 0, 1) := by decide +kernel
theorem dX2_workOut_47 : decode cX2_workOut 47 = .ok (.istore 5, 2) := by decide +kernel
theorem dX2_workOut_49 : decode cX2_workOut 49 = .ok (.iload 5, 2) := by decide +kernel
theorem dX2_workOut_51 : decode cX2_workOut 51 = .ok (.aload_n 1, 1) := by decide +kernel
theorem dX2_workOut_52 : decode cX2_workOut 52 = .ok (.getfield 36, 3) := by decide +kernel
theorem dX2_workOut_55 : decode cX2_workOut 55 = .ok (.if_icmp .ge 40, 3) := by decide +kernel
theorem dX2_workOut_58 : decode cX2_workOut 58 = .ok (.aload_n 0, 1) := by decide +kernel
theorem dX2_workOut_59 : decode cX2_workOut 59 = .ok (.getfield 11, 3) := by decide +kernel
theorem dX2_workOut_62 : decode cX2_workOut 62 = .ok (.iconst 0, 1) := by decide +kernel
theorem dX2_workOut_63 : decode cX2_workOut 63 = .ok (.aaload, 1) := by decide +kernel
theorem dX2_workOut_64 : decode cX2_workOut 64 = .ok (.iload 5, 2) := by decide +kernel
theorem dX2_workOut_66 : decode cX2_workOut 66 = .ok (.iaload, 1) := by decide +kernel
theorem dX2_workOut_67 : decode cX2_workOut 67 = .ok (.iload 4, 2) := by decide +kernel
theorem dX2_workOut_69 : decode cX2_workOut 69 = .ok (.if_icmp .le 20, 3) := by decide +kernel
theorem dX2_workOut_72 : decode cX2_workOut 72 = .ok (.aload_n 0, 1) := by decide +kernel
theorem dX2_workOut_73 : decode cX2_workOut 73 = .ok (.getfield 11, 3) := by decide +kernel
theorem dX2_workOut_76 : decode cX2_workOut 76 = .ok (.iconst 0, 1) := by decide +kernel
theorem dX2_workOut_77 : decode cX2_workOut 77 = .ok (.aaload, 1) := by decide +kernel
theorem dX2_workOut_78 : decode cX2_workOut 78 = .ok (.iload 5, 2) := by decide +kernel
theorem dX2_workOut_80 : decode cX2_workOut 80 = .ok (.iaload, 1) := by decide +kernel
theorem dX2_workOut_81 : decode cX2_workOut 81 = .ok (.istore 4, 2) := by decide +kernel
theorem dX2_workOut_83 : decode cX2_workOut 83 = .ok (.aload_n 0, 1) := by decide +kernel
theorem dX2_workOut_84 : decode cX2_workOut 84 = .ok (.iload 5, 2) := by decide +kernel
theorem dX2_workOut_86 : decode cX2_workOut 86 = .ok (.putfield 23, 3) := by decide +kernel
theorem dX2_workOut_89 : decode cX2_workOut 89 = .ok (.iinc 5 1, 3) := by decide +kernel
theorem dX2_workOut_92 : decode cX2_workOut 92 = .ok (.goto (-43), 3) := by decide +kernel
theorem dX2_workOut_95 : decode cX2_workOut 95 = .ok (.iload 4, 2) := by decide +kernel
theorem dX2_workOut_97 : decode cX2_workOut 97 = .ok (.ireturn, 1) := by decide +kernel
theorem dX2_workOutLetter_0 : decode cX2_workOutLetter 0 = .ok (.iconst 0, 1) := by decide +kernel
theorem dX2_workOutLetter_1 : decode cX2_workOutLetter 1 = .ok (.istore 5, 2) := by decide +kernel
theorem dX2_workOutLetter_3 : decode cX2_workOutLetter 3 = .ok (.iload 5, 2) := by decide +kernel
theorem dX2_workOutLetter_5 : decode cX2_workOutLetter 5 = .ok (.aload_n 1, 1) := by decide +kernel
theorem dX2_workOutLetter_6 : decode cX2_workOutLetter 6 = .ok (.getfield 36, 3) := by decide +kernel
theorem dX2_workOutLetter_9 : decode cX2_workOutLetter 9 = .ok (.if_icmp .ge 88, 3) := by decide +kernel
theorem dX2_workOutLetter_12 : decode cX2_workOutLetter 12 = .ok (.aload_n 0, 1) := by decide +kernel
theorem dX2_workOutLetter_13 : decode cX2_workOutLetter 13 = .ok (.getfield 16, 3) := by decide +kernel
theorem dX2_workOutLetter_16 : decode cX2_workOutLetter 16 = .ok (.iload_n 3, 1) := by decide +kernel
theorem dX2_workOutLetter_17 : decode cX2_workOutLetter 17 = .ok (.aaload, 1) := by decide +kernel
theorem dX2_workOutLetter_18 : decode cX2_workOutLetter 18 = .ok (.iload 5, 2) := by decide +kernel
theorem dX2_workOutLetter_20 : decode cX2_workOutLetter 20 = .ok (.iconst (-1), 1) := by decide +kernel
theorem dX2_workOutLetter_21 : decode cX2_workOutLetter 21 = .ok (.iastore, 1) := by decide +kernel
theorem dX2_workOutLetter_22 : decode cX2_workOutLetter 22 = .ok (.aload_n 1, 1) := by decide +kernel
theorem dX2_workOutLetter_23 : decode cX2_workOutLetter 23 = .ok (.iload 5, 2) := by decide +kernel
theorem dX2_workOutLetter_25 : decode cX2_workOutLetter 25 = .ok (.aload_n 2, 1) := by decide +kernel
theorem dX2_workOutLetter_26 : decode cX2_workOutLetter 26 = .ok (.getfield 39, 3) := by decide +kernel
theorem dX2_workOutLetter_29 : decode cX2_workOutLetter 29 = .ok (.iload_n 3, 1) := by decide +kernel
theorem dX2_workOutLetter_30 : decode cX2_workOutLetter 30 = .ok (.caload, 1) := by decide +kernel
theorem dX2_workOutLetter_31 : decode cX2_workOutLetter 31 = .ok (.invokevirtual 43, 3) := by decide +kernel
theorem dX2_workOutLetter_34 : decode cX2_workOutLetter 34 = .ok (.ifCond .ne 17, 3) := by decide +kernel
theorem dX2_workOutLetter_37 : decode cX2_workOutLetter 37 = .ok (.aload_n 0, 1) := by decide +kernel
theorem dX2_workOutLetter_38 : decode cX2_workOutLetter 38 = .ok (.getfield 11, 3) := by decide +kernel
theorem dX2_workOutLetter_41 : decode cX2_workOutLetter 41 = .ok (.iload_n 3, 1) := by decide +kernel
theorem dX2_workOutLetter_42 : decode cX2_workOutLetter 42 = .ok (.aaload, 1) := by decide +kernel
theorem dX2_workOutLetter_43 : decode cX2_workOutLetter 43 = .ok (.iload 5, 2) := by decide +kernel
theorem dX2_workOutLetter_45 : decode cX2_workOutLetter 45 = .ok (.bipush (-4), 2) := by decide +kernel
theorem dX2_workOutLetter_47 : decode cX2_workOutLetter 47 = .ok (.iastore, 1) := by decide +kernel
theorem dX2_workOutLetter_48 : decode cX2_workOutLetter 48 = .ok (.goto 43, 3) := by decide +kernel
theorem dX2_workOutLetter_51 : decode cX2_workOutLetter 51 = .ok (.iload_n 3, 1) := by decide +kernel
theorem dX2_workOutLetter_52 : decode cX2_workOutLetter 52 = .ok (.aload_n 2, 1) := by decide +kernel
theorem dX2_workOutLetter_53 : decode cX2_workOutLetter 53 = .ok (.getfield 27, 3) := by decide +kernel
theorem dX2_workOutLetter_56 : decode cX2_workOutLetter 56 = .ok (.iconst 1, 1) := by decide +kernel
theorem dX2_workOutLetter_57 : decode cX2_workOutLetter 57 = .ok (.isub, 1) := by decide +kernel
theorem dX2_workOutLetter_58 : decode cX2_workOutLetter 58 = .ok (.if_icmp .ne 23, 3) := by decide +kernel
theorem dX2_workOutLetter_61 : decode cX2_workOutLetter 61 = .ok (.aload_n 0, 1) := by decide +kernel
theorem dX2_workOutLetter_62 : decode cX2_workOutLetter 62 = .ok (.getfield 11, 3) := by decide +kernel
theorem dX2_workOutLetter_65 : decode cX2_workOutLetter 65 = .ok (.iload_n 3, 1) := by decide +kernel
theorem dX2_workOutLetter_66 : decode cX2_workOutLetter 66 = .ok (.aaload, 1) := by decide +kernel
theorem dX2_workOutLetter_67 : decode cX2_workOutLetter 67 = .ok (.iload 5, 2) := by decide +kernel
theorem dX2_workOutLetter_69 : decode cX2_workOutLetter 69 = .ok (.aload 4, 2) := by decide +kernel
theorem dX2_workOutLetter_71 : decode cX2_workOutLetter 71 = .ok (.aload_n 1, 1) := by decide +kernel
theorem dX2_workOutLetter_72 : decode cX2_workOutLetter 72 = .ok (.iload 5, 2) := by decide +kernel
theorem dX2_workOutLetter_74 : decode cX2_workOutLetter 74 = .ok (.invokevirtual 47, 3) := by decide +kernel
theorem dX2_workOutLetter_77 : decode cX2_workOutLetter 77 = .ok (.iastore, 1) := by decide +kernel
theorem dX2_workOutLetter_78 : decode cX2_workOutLetter 78 = .ok (.goto 13, 3) := by decide +kernel
theorem dX2_workOutLetter_81 : decode cX2_workOutLetter 81 = .ok (.aload_n 0, 1) := by decide +kernel
theorem dX2_workOutLetter_82 : decode cX2_workOutLetter 82 = .ok (.aload_n 1, 1) := by decide +kernel
theorem dX2_workOutLetter_83 : decode cX2_workOutLetter 83 = .ok (.iload_n 3, 1) := by decide +kernel
theorem dX2_workOutLetter_84 : decode cX2_workOutLetter 84 = .ok (.iload 5, 2) := by decide +kernel
theorem dX2_workOutLetter_86 : decode cX2_workOutLetter 86 = .ok (.aload 4, 2) := by decide +kernel
theorem dX2_workOutLetter_88 : decode cX2_workOutLetter 88 = .ok (.invokevirtual 53, 3) := by decide +kernel
theorem dX2_workOutLetter_91 : decode cX2_workOutLetter 91 = .ok (.iinc 5 1, 3) := by decide +kernel
theorem dX2_workOutLetter_94 : decode cX2_workOutLetter 94 = .ok (.goto (-91), 3) := by decide +kernel
theorem dX2_workOutLetter_97 : decode cX2_workOutLetter 97 = .ok (.return_, 1) := by decide +kernel
theorem dX2_workOutNext_0 : decode cX2_workOutNext 0 = .ok (.iconst 0, 1) := by decide +kernel
theorem dX2_workOutNext_1 : decode cX2_workOutNext 1 = .ok (.istore 5, 2) := by decide +kernel
theorem dX2_workOutNext_3 : decode cX2_workOutNext 3 = .ok (.iconst (-1), 1) := by decide +kernel
theorem dX2_workOutNext_4 : decode cX2_workOutNext 4 = .ok (.istore 6, 2) := by decide +kernel
theorem dX2_workOutNext_6 : decode cX2_workOutNext 6 = .ok (.iload_n 3, 1) := by decide +kernel
theorem dX2_workOutNext_7 : decode cX2_workOutNext 7 = .ok (.iconst 1, 1) := by decide +kernel
theorem dX2_workOutNext_8 : decode cX2_workOutNext 8 = .ok (.iadd, 1) := by decide +kernel
theorem dX2_workOutNext_9 : decode cX2_workOutNext 9 = .ok (.istore 7, 2) := by decide +kernel
theorem dX2_workOutNext_11 : decode cX2_workOutNext 11 = .ok (.iload 7, 2) := by decide +kernel
theorem dX2_workOutNext_13 : decode cX2_workOutNext 13 = .ok (.aload_n 1, 1) := by decide +kernel
theorem dX2_workOutNext_14 : decode cX2_workOutNext 14 = .ok (.getfield 36, 3) := by decide +kernel
theorem dX2_workOutNext_17 : decode cX2_workOutNext 17 = .ok (.if_icmp .ge 72, 3) := by decide +kernel
theorem dX2_workOutNext_20 : decode cX2_workOutNext 20 = .ok (.aload_n 0, 1) := by decide +kernel
theorem dX2_workOutNext_21 : decode cX2_workOutNext 21 = .ok (.getfield 11, 3) := by decide +kernel
theorem dX2_workOutNext_24 : decode cX2_workOutNext 24 = .ok (.iload_n 2, 1) := by decide +kernel
theorem dX2_workOutNext_25 : decode cX2_workOutNext 25 = .ok (.iconst 1, 1) := by decide +kernel
theorem dX2_workOutNext_26 : decode cX2_workOutNext 26 = .ok (.iadd, 1) := by decide +kernel
theorem dX2_workOutNext_27 : decode cX2_workOutNext 27 = .ok (.aaload, 1) := by decide +kernel
theorem dX2_workOutNext_28 : decode cX2_workOutNext 28 = .ok (.iload 7, 2) := by decide +kernel
theorem dX2_workOutNext_30 : decode cX2_workOutNext 30 = .ok (.iaload, 1) := by decide +kernel
theorem dX2_workOutNext_31 : decode cX2_workOutNext 31 = .ok (.bipush (-4), 2) := by decide +kernel
theorem dX2_workOutNext_33 : decode cX2_workOutNext 33 = .ok (.if_icmp .ne 6, 3) := by decide +kernel
theorem dX2_workOutNext_36 : decode cX2_workOutNext 36 = .ok (.goto 47, 3) := by decide +kernel
theorem dX2_workOutNext_39 : decode cX2_workOutNext 39 = .ok (.aload_n 0, 1) := by decide +kernel
theorem dX2_workOutNext_40 : decode cX2_workOutNext 40 = .ok (.getfield 11, 3) := by decide +kernel
theorem dX2_workOutNext_43 : decode cX2_workOutNext 43 = .ok (.iload_n 2, 1) := by decide +kernel
theorem dX2_workOutNext_44 : decode cX2_workOutNext 44 = .ok (.iconst 1, 1) := by decide +kernel
theorem dX2_workOutNext_45 : decode cX2_workOutNext 45 = .ok (.iadd, 1) := by decide +kernel
theorem dX2_workOutNext_46 : decode cX2_workOutNext 46 = .ok (.aaload, 1) := by decide +kernel
theorem dX2_workOutNext_47 : decode cX2_workOutNext 47 = .ok (.iload 7, 2) := by decide +kernel
theorem dX2_workOutNext_49 : decode cX2_workOutNext 49 = .ok (.iaload, 1) := by decide +kernel
theorem dX2_workOutNext_50 : decode cX2_workOutNext 50 = .ok (.aload 4, 2) := by decide +kernel
theorem dX2_workOutNext_52 : decode cX2_workOutNext 52 = .ok (.aload_n 1, 1) := by decide +kernel
theorem dX2_workOutNext_53 : decode cX2_workOutNext 53 = .ok (.iload_n 3, 1) := by decide +kernel
theorem dX2_workOutNext_54 : decode cX2_workOutNext 54 = .ok (.iload 7, 2) := by decide +kernel
theorem dX2_workOutNext_56 : decode cX2_workOutNext 56 = .ok (.invokevirtual 57, 3) := by decide +kernel
theorem dX2_workOutNext_59 : decode cX2_workOutNext 59 = .ok (.iadd, 1) := by decide +kernel
theorem dX2_workOutNext_60 : decode cX2_workOutNext 60 = .ok (.istore 8, 2) := by decide +kernel
theorem dX2_workOutNext_62 : decode cX2_workOutNext 62 = .ok (.iload 6, 2) := by decide +kernel
theorem dX2_workOutNext_64 : decode cX2_workOutNext 64 = .ok (.iconst (-1), 1) := by decide +kernel
theorem dX2_workOutNext_65 : decode cX2_workOutNext 65 = .ok (.if_icmp .eq 10, 3) := by decide +kernel
theorem dX2_workOutNext_68 : decode cX2_workOutNext 68 = .ok (.iload 8, 2) := by decide +kernel
theorem dX2_workOutNext_70 : decode cX2_workOutNext 70 = .ok (.iload 5, 2) := by decide +kernel
theorem dX2_workOutNext_72 : decode cX2_workOutNext 72 = .ok (.if_icmp .le 11, 3) := by decide +kernel
theorem dX2_workOutNext_75 : decode cX2_workOutNext 75 = .ok (.iload 8, 2) := by decide +kernel
theorem dX2_workOutNext_77 : decode cX2_workOutNext 77 = .ok (.istore 5, 2) := by decide +kernel
theorem dX2_workOutNext_79 : decode cX2_workOutNext 79 = .ok (.iload 7, 2) := by decide +kernel
theorem dX2_workOutNext_81 : decode cX2_workOutNext 81 = .ok (.istore 6, 2) := by decide +kernel
theorem dX2_workOutNext_83 : decode cX2_workOutNext 83 = .ok (.iinc 7 1, 3) := by decide +kernel
theorem dX2_workOutNext_86 : decode cX2_workOutNext 86 = .ok (.goto (-75), 3) := by decide +kernel
theorem dX2_workOutNext_89 : decode cX2_workOutNext 89 = .ok (.aload_n 0, 1) := by decide +kernel
theorem dX2_workOutNext_90 : decode cX2_workOutNext 90 = .ok (.getfield 16, 3) := by decide +kernel
theorem dX2_workOutNext_93 : decode cX2_workOutNext 93 = .ok (.iload_n 2, 1) := by decide +kernel
theorem dX2_workOutNext_94 : decode cX2_workOutNext 94 = .ok (.aaload, 1) := by decide +kernel
theorem dX2_workOutNext_95 : decode cX2_workOutNext 95 = .ok (.iload_n 3, 1) := by decide +kernel
theorem dX2_workOutNext_96 : decode cX2_workOutNext 96 = .ok (.iload 6, 2) := by decide +kernel
theorem dX2_workOutNext_98 : decode cX2_workOutNext 98 = .ok (.iastore, 1) := by decide +kernel
theorem dX2_workOutNext_99 : decode cX2_workOutNext 99 = .ok (.aload_n 0, 1) := by decide +kernel
theorem dX2_workOutNext_100 : decode cX2_workOutNext 100 = .ok (.getfield 11, 3) := by decide +kernel
theorem dX2_workOutNext_103 : decode cX2_workOutNext 103 = .ok (.iload_n 2, 1) := by decide +kernel
theorem dX2_workOutNext_104 : decode cX2_workOutNext 104 = .ok (.aaload, 1) := by decide +kernel
theorem dX2_workOutNext_105 : decode cX2_workOutNext 105 = .ok (.iload_n 3, 1) := by decide +kernel
theorem dX2_workOutNext_106 : decode cX2_workOutNext 106 = .ok (.iload 6, 2) := by decide +kernel
theorem dX2_workOutNext_108 : decode cX2_workOutNext 108 = .ok (.iconst (-1), 1) := by decide +kernel
theorem dX2_workOutNext_109 : decode cX2_workOutNext 109 = .ok (.if_icmp .ne 8, 3) := by decide +kernel
theorem dX2_workOutNext_112 : decode cX2_workOutNext 112 = .ok (.bipush (-4), 2) := by decide +kernel
theorem dX2_workOutNext_114 : decode cX2_workOutNext 114 = .ok (.goto 13, 3) := by decide +kernel
theorem dX2_workOutNext_117 : decode cX2_workOutNext 117 = .ok (.aload 4, 2) := by decide +kernel
theorem dX2_workOutNext_119 : decode cX2_workOutNext 119 = .ok (.aload_n 1, 1) := by decide +kernel
theorem dX2_workOutNext_120 : decode cX2_workOutNext 120 = .ok (.iload_n 3, 1) := by decide +kernel
theorem dX2_workOutNext_121 : decode cX2_workOutNext 121 = .ok (.invokevirtual 47, 3) := by decide +kernel
theorem dX2_workOutNext_124 : decode cX2_workOutNext 124 = .ok (.iload 5, 2) := by decide +kernel
theorem dX2_workOutNext_126 : decode cX2_workOutNext 126 = .ok (.iadd, 1) := by decide +kernel
theorem dX2_workOutNext_127 : decode cX2_workOutNext 127 = .ok (.iastore, 1) := by decide +kernel
theorem dX2_workOutNext_128 : decode cX2_workOutNext 128 = .ok (.return_, 1) := by decide +kernel
theorem dX2_bestPlace_0 : decode cX2_bestPlace 0 = .ok (.aload_n 0, 1) := by decide +kernel
theorem dX2_bestPlace_1 : decode cX2_bestPlace 1 = .ok (.getfield 23, 3) := by decide +kernel
theorem dX2_bestPlace_4 : decode cX2_bestPlace 4 = .ok (.istore_n 2, 1) := by decide +kernel
theorem dX2_bestPlace_5 : decode cX2_bestPlace 5 = .ok (.iconst 0, 1) := by decide +kernel
theorem dX2_bestPlace_6 : decode cX2_bestPlace 6 = .ok (.istore_n 3, 1) := by decide +kernel
theorem dX2_bestPlace_7 : decode cX2_bestPlace 7 = .ok (.iload_n 3, 1) := by decide +kernel
theorem dX2_bestPlace_8 : decode cX2_bestPlace 8 = .ok (.iload_n 1, 1) := by decide +kernel
theorem dX2_bestPlace_9 : decode cX2_bestPlace 9 = .ok (.if_icmp .ge 29, 3) := by decide +kernel
theorem dX2_bestPlace_12 : decode cX2_bestPlace 12 = .ok (.iload_n 3, 1) := by decide +kernel
theorem dX2_bestPlace_13 : decode cX2_bestPlace 13 = .ok (.bipush 6, 2) := by decide +kernel
theorem dX2_bestPlace_15 : decode cX2_bestPlace 15 = .ok (.if_icmp .ge 23, 3) := by decide +kernel
theorem dX2_bestPlace_18 : decode cX2_bestPlace 18 = .ok (.iload_n 2, 1) := by decide +kernel
theorem dX2_bestPlace_19 : decode cX2_bestPlace 19 = .ok (.iconst (-1), 1) := by decide +kernel
theorem dX2_bestPlace_20 : decode cX2_bestPlace 20 = .ok (.if_icmp .eq 18, 3) := by decide +kernel
theorem dX2_bestPlace_23 : decode cX2_bestPlace 23 = .ok (.aload_n 0, 1) := by decide +kernel
theorem dX2_bestPlace_24 : decode cX2_bestPlace 24 = .ok (.getfield 16, 3) := by decide +kernel
theorem dX2_bestPlace_27 : decode cX2_bestPlace 27 = .ok (.iload_n 3, 1) := by decide +kernel
theorem dX2_bestPlace_28 : decode cX2_bestPlace 28 = .ok (.aaload, 1) := by decide +kernel
theorem dX2_bestPlace_29 : decode cX2_bestPlace 29 = .ok (.iload_n 2, 1) := by decide +kernel
theorem dX2_bestPlace_30 : decode cX2_bestPlace 30 = .ok (.iaload, 1) := by decide +kernel
theorem dX2_bestPlace_31 : decode cX2_bestPlace 31 = .ok (.istore_n 2, 1) := by decide +kernel
theorem dX2_bestPlace_32 : decode cX2_bestPlace 32 = .ok (.iinc 3 1, 3) := by decide +kernel
theorem dX2_bestPlace_35 : decode cX2_bestPlace 35 = .ok (.goto (-28), 3) := by decide +kernel
theorem dX2_bestPlace_38 : decode cX2_bestPlace 38 = .ok (.iload_n 2, 1) := by decide +kernel
theorem dX2_bestPlace_39 : decode cX2_bestPlace 39 = .ok (.iconst (-1), 1) := by decide +kernel
theorem dX2_bestPlace_40 : decode cX2_bestPlace 40 = .ok (.if_icmp .ne 8, 3) := by decide +kernel
theorem dX2_bestPlace_43 : decode cX2_bestPlace 43 = .ok (.bipush (-4), 2) := by decide +kernel
theorem dX2_bestPlace_45 : decode cX2_bestPlace 45 = .ok (.goto 4, 3) := by decide +kernel
theorem dX2_bestPlace_48 : decode cX2_bestPlace 48 = .ok (.iload_n 2, 1) := by decide +kernel
theorem dX2_bestPlace_49 : decode cX2_bestPlace 49 = .ok (.ireturn, 1) := by decide +kernel
theorem dX2_countWays_0 : decode cX2_countWays 0 = .ok (.aload_n 0, 1) := by decide +kernel
theorem dX2_countWays_1 : decode cX2_countWays 1 = .ok (.getfield 19, 3) := by decide +kernel
theorem dX2_countWays_4 : decode cX2_countWays 4 = .ok (.iconst 0, 1) := by decide +kernel
theorem dX2_countWays_5 : decode cX2_countWays 5 = .ok (.iconst 1, 1) := by decide +kernel
theorem dX2_countWays_6 : decode cX2_countWays 6 = .ok (.iastore, 1) := by decide +kernel
theorem dX2_countWays_7 : decode cX2_countWays 7 = .ok (.iconst 1, 1) := by decide +kernel
theorem dX2_countWays_8 : decode cX2_countWays 8 = .ok (.istore_n 3, 1) := by decide +kernel
theorem dX2_countWays_9 : decode cX2_countWays 9 = .ok (.iload_n 3, 1) := by decide +kernel
theorem dX2_countWays_10 : decode cX2_countWays 10 = .ok (.aload_n 2, 1) := by decide +kernel
theorem dX2_countWays_11 : decode cX2_countWays 11 = .ok (.getfield 27, 3) := by decide +kernel
theorem dX2_countWays_14 : decode cX2_countWays 14 = .ok (.if_icmp .gt 16, 3) := by decide +kernel
theorem dX2_countWays_17 : decode cX2_countWays 17 = .ok (.aload_n 0, 1) := by decide +kernel
theorem dX2_countWays_18 : decode cX2_countWays 18 = .ok (.getfield 19, 3) := by decide +kernel
theorem dX2_countWays_21 : decode cX2_countWays 21 = .ok (.iload_n 3, 1) := by decide +kernel
theorem dX2_countWays_22 : decode cX2_countWays 22 = .ok (.iconst 0, 1) := by decide +kernel
theorem dX2_countWays_23 : decode cX2_countWays 23 = .ok (.iastore, 1) := by decide +kernel
theorem dX2_countWays_24 : decode cX2_countWays 24 = .ok (.iinc 3 1, 3) := by decide +kernel
theorem dX2_countWays_27 : decode cX2_countWays 27 = .ok (.goto (-18), 3) := by decide +kernel
theorem dX2_countWays_30 : decode cX2_countWays 30 = .ok (.iconst 0, 1) := by decide +kernel
theorem dX2_countWays_31 : decode cX2_countWays 31 = .ok (.istore_n 3, 1) := by decide +kernel
theorem dX2_countWays_32 : decode cX2_countWays 32 = .ok (.iload_n 3, 1) := by decide +kernel
theorem dX2_countWays_33 : decode cX2_countWays 33 = .ok (.aload_n 1, 1) := by decide +kernel
theorem dX2_countWays_34 : decode cX2_countWays 34 = .ok (.getfield 36, 3) := by decide +kernel
theorem dX2_countWays_37 : decode cX2_countWays 37 = .ok (.if_icmp .ge 63, 3) := by decide +kernel
theorem dX2_countWays_40 : decode cX2_countWays 40 = .ok (.aload_n 2, 1) := by decide +kernel
theorem dX2_countWays_41 : decode cX2_countWays 41 = .ok (.getfield 27, 3) := by decide +kernel
theorem dX2_countWays_44 : decode cX2_countWays 44 = .ok (.istore 4, 2) := by decide +kernel
theorem dX2_countWays_46 : decode cX2_countWays 46 = .ok (.iload 4, 2) := by decide +kernel
theorem dX2_countWays_48 : decode cX2_countWays 48 = .ok (.iconst 1, 1) := by decide +kernel
theorem dX2_countWays_49 : decode cX2_countWays 49 = .ok (.if_icmp .lt 45, 3) := by decide +kernel
theorem dX2_countWays_52 : decode cX2_countWays 52 = .ok (.aload_n 1, 1) := by decide +kernel
theorem dX2_countWays_53 : decode cX2_countWays 53 = .ok (.iload_n 3, 1) := by decide +kernel
theorem dX2_countWays_54 : decode cX2_countWays 54 = .ok (.aload_n 2, 1) := by decide +kernel
theorem dX2_countWays_55 : decode cX2_countWays 55 = .ok (.getfield 39, 3) := by decide +kernel
theorem dX2_countWays_58 : decode cX2_countWays 58 = .ok (.iload 4, 2) := by decide +kernel
theorem dX2_countWays_60 : decode cX2_countWays 60 = .ok (.iconst 1, 1) := by decide +kernel
theorem dX2_countWays_61 : decode cX2_countWays 61 = .ok (.isub, 1) := by decide +kernel
theorem dX2_countWays_62 : decode cX2_countWays 62 = .ok (.caload, 1) := by decide +kernel
theorem dX2_countWays_63 : decode cX2_countWays 63 = .ok (.invokevirtual 43, 3) := by decide +kernel
theorem dX2_countWays_66 : decode cX2_countWays 66 = .ok (.ifCond .eq 22, 3) := by decide +kernel
theorem dX2_countWays_69 : decode cX2_countWays 69 = .ok (.aload_n 0, 1) := by decide +kernel
theorem dX2_countWays_70 : decode cX2_countWays 70 = .ok (.getfield 19, 3) := by decide +kernel
theorem dX2_countWays_73 : decode cX2_countWays 73 = .ok (.iload 4, 2) := by decide +kernel
theorem dX2_countWays_75 : decode cX2_countWays 75 = .ok (.dup2, 1) := by decide +kernel
theorem dX2_countWays_76 : decode cX2_countWays 76 = .ok (.iaload, 1) := by decide +kernel
theorem dX2_countWays_77 : decode cX2_countWays 77 = .ok (.aload_n 0, 1) := by decide +kernel
theorem dX2_countWays_78 : decode cX2_countWays 78 = .ok (.getfield 19, 3) := by decide +kernel
theorem dX2_countWays_81 : decode cX2_countWays 81 = .ok (.iload 4, 2) := by decide +kernel
theorem dX2_countWays_83 : decode cX2_countWays 83 = .ok (.iconst 1, 1) := by decide +kernel
theorem dX2_countWays_84 : decode cX2_countWays 84 = .ok (.isub, 1) := by decide +kernel
theorem dX2_countWays_85 : decode cX2_countWays 85 = .ok (.iaload, 1) := by decide +kernel
theorem dX2_countWays_86 : decode cX2_countWays 86 = .ok (.iadd, 1) := by decide +kernel
theorem dX2_countWays_87 : decode cX2_countWays 87 = .ok (.iastore, 1) := by decide +kernel
theorem dX2_countWays_88 : decode cX2_countWays 88 = .ok (.iinc 4 (-1), 3) := by decide +kernel
theorem dX2_countWays_91 : decode cX2_countWays 91 = .ok (.goto (-45), 3) := by decide +kernel
theorem dX2_countWays_94 : decode cX2_countWays 94 = .ok (.iinc 3 1, 3) := by decide +kernel
theorem dX2_countWays_97 : decode cX2_countWays 97 = .ok (.goto (-65), 3) := by decide +kernel
theorem dX2_countWays_100 : decode cX2_countWays 100 = .ok (.aload_n 0, 1) := by decide +kernel
theorem dX2_countWays_101 : decode cX2_countWays 101 = .ok (.getfield 19, 3) := by decide +kernel
theorem dX2_countWays_104 : decode cX2_countWays 104 = .ok (.aload_n 2, 1) := by decide +kernel
theorem dX2_countWays_105 : decode cX2_countWays 105 = .ok (.getfield 27, 3) := by decide +kernel
theorem dX2_countWays_108 : decode cX2_countWays 108 = .ok (.iaload, 1) := by decide +kernel
theorem dX2_countWays_109 : decode cX2_countWays 109 = .ok (.ireturn, 1) := by decide +kernel
theorem dX3_init_0 : decode cX3_init 0 = .ok (.aload_n 0, 1) := by decide +kernel
theorem dX3_init_1 : decode cX3_init 1 = .ok (.invokespecial 3, 3) := by decide +kernel
theorem dX3_init_4 : decode cX3_init 4 = .ok (.aload_n 0, 1) := by decide +kernel
theorem dX3_init_5 : decode cX3_init 5 = .ok (.bipush 8, 2) := by decide +kernel
theorem dX3_init_7 : decode cX3_init 7 = .ok (.anewarray 9, 3) := by decide +kernel
theorem dX3_init_10 : decode cX3_init 10 = .ok (.putfield 11, 3) := by decide +kernel
theorem dX3_init_13 : decode cX3_init 13 = .ok (.aload_n 0, 1) := by decide +kernel
theorem dX3_init_14 : decode cX3_init 14 = .ok (.iconst 0, 1) := by decide +kernel
theorem dX3_init_15 : decode cX3_init 15 = .ok (.putfield 17, 3) := by decide +kernel
theorem dX3_init_18 : decode cX3_init 18 = .ok (.aload_n 0, 1) := by decide +kernel
theorem dX3_init_19 : decode cX3_init 19 = .ok (.iconst 0, 1) := by decide +kernel
theorem dX3_init_20 : decode cX3_init 20 = .ok (.putfield 21, 3) := by decide +kernel
theorem dX3_init_23 : decode cX3_init 23 = .ok (.iconst 0, 1) := by decide +kernel
theorem dX3_init_24 : decode cX3_init 24 = .ok (.istore_n 1, 1) := by decide +kernel
theorem dX3_init_25 : decode cX3_init 25 = .ok (.iload_n 1, 1) := by decide +kernel
theorem dX3_init_26 : decode cX3_init 26 = .ok (.bipush 8, 2) := by decide +kernel
theorem dX3_init_28 : decode cX3_init 28 = .ok (.if_icmp .ge 22, 3) := by decide +kernel
theorem dX3_init_31 : decode cX3_init 31 = .ok (.aload_n 0, 1) := by decide +kernel
theorem dX3_init_32 : decode cX3_init 32 = .ok (.getfield 11, 3) := by decide +kernel
theorem dX3_init_35 : decode cX3_init 35 = .ok (.iload_n 1, 1) := by decide +kernel
theorem dX3_init_36 : decode cX3_init 36 = .ok (.new 9, 3) := by decide +kernel
theorem dX3_init_39 : decode cX3_init 39 = .ok (.dup, 1) := by decide +kernel
theorem dX3_init_40 : decode cX3_init 40 = .ok (.invokespecial 24, 3) := by decide +kernel
theorem dX3_init_43 : decode cX3_init 43 = .ok (.aastore, 1) := by decide +kernel
theorem dX3_init_44 : decode cX3_init 44 = .ok (.iinc 1 1, 3) := by decide +kernel
theorem dX3_init_47 : decode cX3_init 47 = .ok (.goto (-22), 3) := by decide +kernel
theorem dX3_init_50 : decode cX3_init 50 = .ok (.return_, 1) := by decide +kernel
theorem dX3_has_0 : decode cX3_has 0 = .ok (.iload_n 1, 1) := by decide +kernel
theorem dX3_has_1 : decode cX3_has 1 = .ok (.ifCond .lt 15, 3) := by decide +kernel
theorem dX3_has_4 : decode cX3_has 4 = .ok (.iload_n 1, 1) := by decide +kernel
theorem dX3_has_5 : decode cX3_has 5 = .ok (.aload_n 0, 1) := by decide +kernel
theorem dX3_has_6 : decode cX3_has 6 = .ok (.getfield 17, 3) := by decide +kernel
theorem dX3_has_9 : decode cX3_has 9 = .ok (.if_icmp .ge 7, 3) := by decide +kernel
theorem dX3_has_12 : decode cX3_has 12 = .ok (.iconst 1, 1) := by decide +kernel
theorem dX3_has_13 : decode cX3_has 13 = .ok (.goto 4, 3) := by decide +kernel
theorem dX3_has_16 : decode cX3_has 16 = .ok (.iconst 0, 1) := by decide +kernel
theorem dX3_has_17 : decode cX3_has 17 = .ok (.ireturn, 1) := by decide +kernel
theorem dX3_clear_0 : decode cX3_clear 0 = .ok (.aload_n 0, 1) := by decide +kernel
theorem dX3_clear_1 : decode cX3_clear 1 = .ok (.iconst 0, 1) := by decide +kernel
theorem dX3_clear_2 : decode cX3_clear 2 = .ok (.putfield 17, 3) := by decide +kernel
theorem dX3_clear_5 : decode cX3_clear 5 = .ok (.return_, 1) := by decide +kernel
theorem dX3_addName_0 : decode cX3_addName 0 = .ok (.aload_n 0, 1) := by decide +kernel
theorem dX3_addName_1 : decode cX3_addName 1 = .ok (.getfield 11, 3) := by decide +kernel
theorem dX3_addName_4 : decode cX3_addName 4 = .ok (.aload_n 0, 1) := by decide +kernel
theorem dX3_addName_5 : decode cX3_addName 5 = .ok (.getfield 17, 3) := by decide +kernel
theorem dX3_addName_8 : decode cX3_addName 8 = .ok (.aaload, 1) := by decide +kernel
theorem dX3_addName_9 : decode cX3_addName 9 = .ok (.astore_n 2, 1) := by decide +kernel
theorem dX3_addName_10 : decode cX3_addName 10 = .ok (.aload_n 2, 1) := by decide +kernel
theorem dX3_addName_11 : decode cX3_addName 11 = .ok (.iload_n 1, 1) := by decide +kernel
theorem dX3_addName_12 : decode cX3_addName 12 = .ok (.aload_n 0, 1) := by decide +kernel
theorem dX3_addName_13 : decode cX3_addName 13 = .ok (.getfield 21, 3) := by decide +kernel
theorem dX3_addName_16 : decode cX3_addName 16 = .ok (.invokevirtual 25, 3) := by decide +kernel
theorem dX3_addName_19 : decode cX3_addName 19 = .ok (.aload_n 0, 1) := by decide +kernel
theorem dX3_addName_20 : decode cX3_addName 20 = .ok (.dup, 1) := by decide +kernel
theorem dX3_addName_21 : decode cX3_addName 21 = .ok (.getfield 17, 3) := by decide +kernel
theorem dX3_addName_24 : decode cX3_addName 24 = .ok (.iconst 1, 1) := by decide +kernel
theorem dX3_addName_25 : decode cX3_addName 25 = .ok (.iadd, 1) := by decide +kernel
theorem dX3_addName_26 : decode cX3_addName 26 = .ok (.putfield 17, 3) := by decide +kernel
theorem dX3_addName_29 : decode cX3_addName 29 = .ok (.aload_n 0, 1) := by decide +kernel
theorem dX3_addName_30 : decode cX3_addName 30 = .ok (.dup, 1) := by decide +kernel
theorem dX3_addName_31 : decode cX3_addName 31 = .ok (.getfield 21, 3) := by decide +kernel
theorem dX3_addName_34 : decode cX3_addName 34 = .ok (.iconst 1, 1) := by decide +kernel
theorem dX3_addName_35 : decode cX3_addName 35 = .ok (.iadd, 1) := by decide +kernel
theorem dX3_addName_36 : decode cX3_addName 36 = .ok (.putfield 21, 3) := by decide +kernel
theorem dX3_addName_39 : decode cX3_addName 39 = .ok (.aload_n 2, 1) := by decide +kernel
theorem dX3_addName_40 : decode cX3_addName 40 = .ok (.areturn, 1) := by decide +kernel
theorem dX4_init_0 : decode cX4_init 0 = .ok (.aload_n 0, 1) := by decide +kernel
theorem dX4_init_1 : decode cX4_init 1 = .ok (.invokespecial 3, 3) := by decide +kernel
theorem dX4_init_4 : decode cX4_init 4 = .ok (.aload_n 0, 1) := by decide +kernel
theorem dX4_init_5 : decode cX4_init 5 = .ok (.bipush 12, 2) := by decide +kernel
theorem dX4_init_7 : decode cX4_init 7 = .ok (.newarray .char, 2) := by decide +kernel
theorem dX4_init_9 : decode cX4_init 9 = .ok (.putfield 9, 3) := by decide +kernel
theorem dX4_init_12 : decode cX4_init 12 = .ok (.aload_n 0, 1) := by decide +kernel
theorem dX4_init_13 : decode cX4_init 13 = .ok (.iconst 0, 1) := by decide +kernel
theorem dX4_init_14 : decode cX4_init 14 = .ok (.putfield 15, 3) := by decide +kernel
theorem dX4_init_17 : decode cX4_init 17 = .ok (.aload_n 0, 1) := by decide +kernel
theorem dX4_init_18 : decode cX4_init 18 = .ok (.iconst 0, 1) := by decide +kernel
theorem dX4_init_19 : decode cX4_init 19 = .ok (.putfield 19, 3) := by decide +kernel
theorem dX4_init_22 : decode cX4_init 22 = .ok (.aload_n 0, 1) := by decide +kernel
theorem dX4_init_23 : decode cX4_init 23 = .ok (.iconst 0, 1) := by decide +kernel
theorem dX4_init_24 : decode cX4_init 24 = .ok (.putfield 22, 3) := by decide +kernel
theorem dX4_init_27 : decode cX4_init 27 = .ok (.aload_n 0, 1) := by decide +kernel
theorem dX4_init_28 : decode cX4_init 28 = .ok (.iconst 0, 1) := by decide +kernel
theorem dX4_init_29 : decode cX4_init 29 = .ok (.putfield 25, 3) := by decide +kernel
theorem dX4_init_32 : decode cX4_init 32 = .ok (.aload_n 0, 1) := by decide +kernel
theorem dX4_init_33 : decode cX4_init 33 = .ok (.iconst 0, 1) := by decide +kernel
theorem dX4_init_34 : decode cX4_init 34 = .ok (.putfield 28, 3) := by decide +kernel
theorem dX4_init_37 : decode cX4_init 37 = .ok (.aload_n 0, 1) := by decide +kernel
theorem dX4_init_38 : decode cX4_init 38 = .ok (.iconst 0, 1) := by decide +kernel
theorem dX4_init_39 : decode cX4_init 39 = .ok (.putfield 31, 3) := by decide +kernel
theorem dX4_init_42 : decode cX4_init 42 = .ok (.return_, 1) := by decide +kernel
theorem dX4_reset_0 : decode cX4_reset 0 = .ok (.aload_n 0, 1) := by decide +kernel
theorem dX4_reset_1 : decode cX4_reset 1 = .ok (.iconst 0, 1) := by decide +kernel
theorem dX4_reset_2 : decode cX4_reset 2 = .ok (.putfield 15, 3) := by decide +kernel
theorem dX4_reset_5 : decode cX4_reset 5 = .ok (.aload_n 0, 1) := by decide +kernel
theorem dX4_reset_6 : decode cX4_reset 6 = .ok (.iload_n 1, 1) := by decide +kernel
theorem dX4_reset_7 : decode cX4_reset 7 = .ok (.putfield 19, 3) := by decide +kernel
theorem dX4_reset_10 : decode cX4_reset 10 = .ok (.aload_n 0, 1) := by decide +kernel
theorem dX4_reset_11 : decode cX4_reset 11 = .ok (.iload_n 2, 1) := by decide +kernel
theorem dX4_reset_12 : decode cX4_reset 12 = .ok (.putfield 22, 3) := by decide +kernel
theorem dX4_reset_15 : decode cX4_reset 15 = .ok (.aload_n 0, 1) := by decide +kernel
theorem dX4_reset_16 : decode cX4_reset 16 = .ok (.iconst 0, 1) := by decide +kernel
theorem dX4_reset_17 : decode cX4_reset 17 = .ok (.putfield 25, 3) := by decide +kernel
theorem dX4_reset_20 : decode cX4_reset 20 = .ok (.aload_n 0, 1) := by decide +kernel
theorem dX4_reset_21 : decode cX4_reset 21 = .ok (.iconst 0, 1) := by decide +kernel
theorem dX4_reset_22 : decode cX4_reset 22 = .ok (.putfield 28, 3) := by decide +kernel
theorem dX4_reset_25 : decode cX4_reset 25 = .ok (.aload_n 0, 1) := by decide +kernel
theorem dX4_reset_26 : decode cX4_reset 26 = .ok (.iconst 0, 1) := by decide +kernel
theorem dX4_reset_27 : decode cX4_reset 27 = .ok (.putfield 31, 3) := by decide +kernel
theorem dX4_reset_30 : decode cX4_reset 30 = .ok (.return_, 1) := by decide +kernel
theorem dX4_addSign_0 : decode cX4_addSign 0 = .ok (.aload_n 0, 1) := by decide +kernel
theorem dX4_addSign_1 : decode cX4_addSign 1 = .ok (.getfield 15, 3) := by decide +kernel
theorem dX4_addSign_4 : decode cX4_addSign 4 = .ok (.bipush 12, 2) := by decide +kernel
theorem dX4_addSign_6 : decode cX4_addSign 6 = .ok (.if_icmp .lt 4, 3) := by decide +kernel
theorem dX4_addSign_9 : decode cX4_addSign 9 = .ok (.return_, 1) := by decide +kernel
theorem dX4_addSign_10 : decode cX4_addSign 10 = .ok (.aload_n 0, 1) := by decide +kernel
theorem dX4_addSign_11 : decode cX4_addSign 11 = .ok (.iload_n 1, 1) := by decide +kernel
theorem dX4_addSign_12 : decode cX4_addSign 12 = .ok (.invokevirtual 34, 3) := by decide +kernel
theorem dX4_addSign_15 : decode cX4_addSign 15 = .ok (.ifCond .eq 18, 3) := by decide +kernel
theorem dX4_addSign_18 : decode cX4_addSign 18 = .ok (.aload_n 0, 1) := by decide +kernel
theorem dX4_addSign_19 : decode cX4_addSign 19 = .ok (.dup, 1) := by decide +kernel
theorem dX4_addSign_20 : decode cX4_addSign 20 = .ok (.getfield 28, 3) := by decide +kernel
theorem dX4_addSign_23 : decode cX4_addSign 23 = .ok (.iconst 1, 1) := by decide +kernel
theorem dX4_addSign_24 : decode cX4_addSign 24 = .ok (.aload_n 0, 1) := by decide +kernel
theorem dX4_addSign_25 : decode cX4_addSign 25 = .ok (.getfield 15, 3) := by decide +kernel
theorem dX4_addSign_28 : decode cX4_addSign 28 = .ok (.ishl, 1) := by decide +kernel
theorem dX4_addSign_29 : decode cX4_addSign 29 = .ok (.ior, 1) := by decide +kernel
theorem dX4_addSign_30 : decode cX4_addSign 30 = .ok (.putfield 28, 3) := by decide +kernel
theorem dX4_addSign_33 : decode cX4_addSign 33 = .ok (.iload_n 1, 1) := by decide +kernel
theorem dX4_addSign_34 : decode cX4_addSign 34 = .ok (.invokestatic 38, 3) := by decide +kernel
theorem dX4_addSign_37 : decode cX4_addSign 37 = .ok (.ifCond .eq 18, 3) := by decide +kernel
theorem dX4_addSign_40 : decode cX4_addSign 40 = .ok (.aload_n 0, 1) := by decide +kernel
theorem dX4_addSign_41 : decode cX4_addSign 41 = .ok (.dup, 1) := by decide +kernel
theorem dX4_addSign_42 : decode cX4_addSign 42 = .ok (.getfield 31, 3) := by decide +kernel
theorem dX4_addSign_45 : decode cX4_addSign 45 = .ok (.iconst 1, 1) := by decide +kernel
theorem dX4_addSign_46 : decode cX4_addSign 46 = .ok (.iload_n 1, 1) := by decide +kernel
theorem dX4_addSign_47 : decode cX4_addSign 47 = .ok (.invokestatic 42, 3) := by decide +kernel
theorem dX4_addSign_50 : decode cX4_addSign 50 = .ok (.ishl, 1) := by decide +kernel
theorem dX4_addSign_51 : decode cX4_addSign 51 = .ok (.ior, 1) := by decide +kernel
theorem dX4_addSign_52 : decode cX4_addSign 52 = .ok (.putfield 31, 3) := by decide +kernel
theorem dX4_addSign_55 : decode cX4_addSign 55 = .ok (.aload_n 0, 1) := by decide +kernel
theorem dX4_addSign_56 : decode cX4_addSign 56 = .ok (.getfield 9, 3) := by decide +kernel
theorem dX4_addSign_59 : decode cX4_addSign 59 = .ok (.aload_n 0, 1) := by decide +kernel
theorem dX4_addSign_60 : decode cX4_addSign 60 = .ok (.getfield 15, 3) := by decide +kernel
theorem dX4_addSign_63 : decode cX4_addSign 63 = .ok (.iload_n 1, 1) := by decide +kernel
theorem dX4_addSign_64 : decode cX4_addSign 64 = .ok (.castore, 1) := by decide +kernel
theorem dX4_addSign_65 : decode cX4_addSign 65 = .ok (.aload_n 0, 1) := by decide +kernel
theorem dX4_addSign_66 : decode cX4_addSign 66 = .ok (.dup, 1) := by decide +kernel
theorem dX4_addSign_67 : decode cX4_addSign 67 = .ok (.getfield 15, 3) := by decide +kernel
theorem dX4_addSign_70 : decode cX4_addSign 70 = .ok (.iconst 1, 1) := by decide +kernel
theorem dX4_addSign_71 : decode cX4_addSign 71 = .ok (.iadd, 1) := by decide +kernel
theorem dX4_addSign_72 : decode cX4_addSign 72 = .ok (.putfield 15, 3) := by decide +kernel
theorem dX4_addSign_75 : decode cX4_addSign 75 = .ok (.return_, 1) := by decide +kernel
theorem dX4_wouldBegin_0 : decode cX4_wouldBegin 0 = .ok (.aload_n 0, 1) := by decide +kernel
theorem dX4_wouldBegin_1 : decode cX4_wouldBegin 1 = .ok (.getfield 15, 3) := by decide +kernel
theorem dX4_wouldBegin_4 : decode cX4_wouldBegin 4 = .ok (.ifCond .eq 10, 3) := by decide +kernel
theorem dX4_wouldBegin_7 : decode cX4_wouldBegin 7 = .ok (.iload_n 1, 1) := by decide +kernel
theorem dX4_wouldBegin_8 : decode cX4_wouldBegin 8 = .ok (.invokestatic 38, 3) := by decide +kernel
theorem dX4_wouldBegin_11 : decode cX4_wouldBegin 11 = .ok (.ifCond .ne 8, 3) := by decide +kernel
theorem dX4_wouldBegin_14 : decode cX4_wouldBegin 14 = .ok (.iload_n 1, 1) := by decide +kernel
theorem dX4_wouldBegin_15 : decode cX4_wouldBegin 15 = .ok (.invokestatic 38, 3) := by decide +kernel
theorem dX4_wouldBegin_18 : decode cX4_wouldBegin 18 = .ok (.ireturn, 1) := by decide +kernel
theorem dX4_wouldBegin_19 : decode cX4_wouldBegin 19 = .ok (.aload_n 0, 1) := by decide +kernel
theorem dX4_wouldBegin_20 : decode cX4_wouldBegin 20 = .ok (.getfield 9, 3) := by decide +kernel
theorem dX4_wouldBegin_23 : decode cX4_wouldBegin 23 = .ok (.aload_n 0, 1) := by decide +kernel
theorem dX4_wouldBegin_24 : decode cX4_wouldBegin 24 = .ok (.getfield 15, 3) := by decide +kernel
theorem dX4_wouldBegin_27 : decode cX4_wouldBegin 27 = .ok (.iconst 1, 1) := by decide +kernel
theorem dX4_wouldBegin_28 : decode cX4_wouldBegin 28 = .ok (.isub, 1) := by decide +kernel
theorem dX4_wouldBegin_29 : decode cX4_wouldBegin 29 = .ok (.caload, 1) := by decide +kernel
theorem dX4_wouldBegin_30 : decode cX4_wouldBegin 30 = .ok (.istore_n 2, 1) := by decide +kernel
theorem dX4_wouldBegin_31 : decode cX4_wouldBegin 31 = .ok (.iload_n 2, 1) := by decide +kernel
theorem dX4_wouldBegin_32 : decode cX4_wouldBegin 32 = .ok (.bipush 95, 2) := by decide +kernel
theorem dX4_wouldBegin_34 : decode cX4_wouldBegin 34 = .ok (.if_icmp .eq 17, 3) := by decide +kernel
theorem dX4_wouldBegin_37 : decode cX4_wouldBegin 37 = .ok (.iload_n 1, 1) := by decide +kernel
theorem dX4_wouldBegin_38 : decode cX4_wouldBegin 38 = .ok (.invokestatic 46, 3) := by decide +kernel
theorem dX4_wouldBegin_41 : decode cX4_wouldBegin 41 = .ok (.ifCond .eq 14, 3) := by decide +kernel
theorem dX4_wouldBegin_44 : decode cX4_wouldBegin 44 = .ok (.iload_n 2, 1) := by decide +kernel
theorem dX4_wouldBegin_45 : decode cX4_wouldBegin 45 = .ok (.invokestatic 49, 3) := by decide +kernel
theorem dX4_wouldBegin_48 : decode cX4_wouldBegin 48 = .ok (.ifCond .eq 7, 3) := by decide +kernel
theorem dX4_wouldBegin_51 : decode cX4_wouldBegin 51 = .ok (.iconst 1, 1) := by decide +kernel
theorem dX4_wouldBegin_52 : decode cX4_wouldBegin 52 = .ok (.goto 4, 3) := by decide +kernel
theorem dX4_wouldBegin_55 : decode cX4_wouldBegin 55 = .ok (.iconst 0, 1) := by decide +kernel
theorem dX4_wouldBegin_56 : decode cX4_wouldBegin 56 = .ok (.ireturn, 1) := by decide +kernel
theorem dX4_isAlike_0 : decode cX4_isAlike 0 = .ok (.aload_n 0, 1) := by decide +kernel
theorem dX4_isAlike_1 : decode cX4_isAlike 1 = .ok (.getfield 9, 3) := by decide +kernel
theorem dX4_isAlike_4 : decode cX4_isAlike 4 = .ok (.iload_n 1, 1) := by decide +kernel
theorem dX4_isAlike_5 : decode cX4_isAlike 5 = .ok (.caload, 1) := by decide +kernel
theorem dX4_isAlike_6 : decode cX4_isAlike 6 = .ok (.istore_n 3, 1) := by decide +kernel
theorem dX4_isAlike_7 : decode cX4_isAlike 7 = .ok (.iload_n 3, 1) := by decide +kernel
theorem dX4_isAlike_8 : decode cX4_isAlike 8 = .ok (.iload_n 2, 1) := by decide +kernel
theorem dX4_isAlike_9 : decode cX4_isAlike 9 = .ok (.if_icmp .ne 5, 3) := by decide +kernel
theorem dX4_isAlike_12 : decode cX4_isAlike 12 = .ok (.iconst 1, 1) := by decide +kernel
theorem dX4_isAlike_13 : decode cX4_isAlike 13 = .ok (.ireturn, 1) := by decide +kernel
theorem dX4_isAlike_14 : decode cX4_isAlike 14 = .ok (.aload_n 0, 1) := by decide +kernel
theorem dX4_isAlike_15 : decode cX4_isAlike 15 = .ok (.getfield 19, 3) := by decide +kernel
theorem dX4_isAlike_18 : decode cX4_isAlike 18 = .ok (.iconst 1, 1) := by decide +kernel
theorem dX4_isAlike_19 : decode cX4_isAlike 19 = .ok (.if_icmp .eq 25, 3) := by decide +kernel
theorem dX4_isAlike_22 : decode cX4_isAlike 22 = .ok (.iload_n 3, 1) := by decide +kernel
theorem dX4_isAlike_23 : decode cX4_isAlike 23 = .ok (.invokestatic 38, 3) := by decide +kernel
theorem dX4_isAlike_26 : decode cX4_isAlike 26 = .ok (.ifCond .eq 18, 3) := by decide +kernel
theorem dX4_isAlike_29 : decode cX4_isAlike 29 = .ok (.iload_n 3, 1) := by decide +kernel
theorem dX4_isAlike_30 : decode cX4_isAlike 30 = .ok (.invokestatic 42, 3) := by decide +kernel
theorem dX4_isAlike_33 : decode cX4_isAlike 33 = .ok (.iload_n 2, 1) := by decide +kernel
theorem dX4_isAlike_34 : decode cX4_isAlike 34 = .ok (.invokestatic 42, 3) := by decide +kernel
theorem dX4_isAlike_37 : decode cX4_isAlike 37 = .ok (.if_icmp .ne 7, 3) := by decide +kernel
theorem dX4_isAlike_40 : decode cX4_isAlike 40 = .ok (.iconst 1, 1) := by decide +kernel
theorem dX4_isAlike_41 : decode cX4_isAlike 41 = .ok (.goto 4, 3) := by decide +kernel
theorem dX4_isAlike_44 : decode cX4_isAlike 44 = .ok (.iconst 0, 1) := by decide +kernel
theorem dX4_isAlike_45 : decode cX4_isAlike 45 = .ok (.ireturn, 1) := by decide +kernel
theorem dX4_hasAll_0 : decode cX4_hasAll 0 = .ok (.aload_n 1, 1) := by decide +kernel
theorem dX4_hasAll_1 : decode cX4_hasAll 1 = .ok (.invokevirtual 52, 3) := by decide +kernel
theorem dX4_hasAll_4 : decode cX4_hasAll 4 = .ok (.aload_n 0, 1) := by decide +kernel
theorem dX4_hasAll_5 : decode cX4_hasAll 5 = .ok (.getfield 31, 3) := by decide +kernel
theorem dX4_hasAll_8 : decode cX4_hasAll 8 = .ok (.iconst (-1), 1) := by decide +kernel
theorem dX4_hasAll_9 : decode cX4_hasAll 9 = .ok (.ixor, 1) := by decide +kernel
theorem dX4_hasAll_10 : decode cX4_hasAll 10 = .ok (.iand, 1) := by decide +kernel
theorem dX4_hasAll_11 : decode cX4_hasAll 11 = .ok (.ifCond .ne 7, 3) := by decide +kernel
theorem dX4_hasAll_14 : decode cX4_hasAll 14 = .ok (.iconst 1, 1) := by decide +kernel
theorem dX4_hasAll_15 : decode cX4_hasAll 15 = .ok (.goto 4, 3) := by decide +kernel
theorem dX4_hasAll_18 : decode cX4_hasAll 18 = .ok (.iconst 0, 1) := by decide +kernel
theorem dX4_hasAll_19 : decode cX4_hasAll 19 = .ok (.ireturn, 1) := by decide +kernel
theorem dX5_init_0 : decode cX5_init 0 = .ok (.aload_n 0, 1) := by decide +kernel
theorem dX5_init_1 : decode cX5_init 1 = .ok (.invokespecial 3, 3) := by decide +kernel
theorem dX5_init_4 : decode cX5_init 4 = .ok (.aload_n 0, 1) := by decide +kernel
theorem dX5_init_5 : decode cX5_init 5 = .ok (.bipush 8, 2) := by decide +kernel
theorem dX5_init_7 : decode cX5_init 7 = .ok (.newarray .int, 2) := by decide +kernel
theorem dX5_init_9 : decode cX5_init 9 = .ok (.putfield 9, 3) := by decide +kernel
theorem dX5_init_12 : decode cX5_init 12 = .ok (.aload_n 0, 1) := by decide +kernel
theorem dX5_init_13 : decode cX5_init 13 = .ok (.bipush 8, 2) := by decide +kernel
theorem dX5_init_15 : decode cX5_init 15 = .ok (.newarray .int, 2) := by decide +kernel
theorem dX5_init_17 : decode cX5_init 17 = .ok (.putfield 15, 3) := by decide +kernel
theorem dX5_init_20 : decode cX5_init 20 = .ok (.aload_n 0, 1) := by decide +kernel
theorem dX5_init_21 : decode cX5_init 21 = .ok (.iconst 0, 1) := by decide +kernel
theorem dX5_init_22 : decode cX5_init 22 = .ok (.putfield 18, 3) := by decide +kernel
theorem dX5_init_25 : decode cX5_init 25 = .ok (.return_, 1) := by decide +kernel
theorem dX5_rank_0 : decode cX5_rank 0 = .ok (.aload_n 0, 1) := by decide +kernel
theorem dX5_rank_1 : decode cX5_rank 1 = .ok (.iconst 0, 1) := by decide +kernel
theorem dX5_rank_2 : decode cX5_rank 2 = .ok (.putfield 18, 3) := by decide +kernel
theorem dX5_rank_5 : decode cX5_rank 5 = .ok (.iconst 0, 1) := by decide +kernel
theorem dX5_rank_6 : decode cX5_rank 6 = .ok (.istore_n 2, 1) := by decide +kernel
theorem dX5_rank_7 : decode cX5_rank 7 = .ok (.iload_n 2, 1) := by decide +kernel
theorem dX5_rank_8 : decode cX5_rank 8 = .ok (.aload_n 1, 1) := by decide +kernel
theorem dX5_rank_9 : decode cX5_rank 9 = .ok (.getfield 22, 3) := by decide +kernel
theorem dX5_rank_12 : decode cX5_rank 12 = .ok (.if_icmp .ge 26, 3) := by decide +kernel
theorem dX5_rank_15 : decode cX5_rank 15 = .ok (.aload_n 0, 1) := by decide +kernel
theorem dX5_rank_16 : decode cX5_rank 16 = .ok (.getfield 9, 3) := by decide +kernel
theorem dX5_rank_19 : decode cX5_rank 19 = .ok (.iload_n 2, 1) := by decide +kernel
theorem dX5_rank_20 : decode cX5_rank 20 = .ok (.iaload, 1) := by decide +kernel
theorem dX5_rank_21 : decode cX5_rank 21 = .ok (.bipush (-4), 2) := by decide +kernel
theorem dX5_rank_23 : decode cX5_rank 23 = .ok (.if_icmp .eq 9, 3) := by decide +kernel
theorem dX5_rank_26 : decode cX5_rank 26 = .ok (.aload_n 0, 1) := by decide +kernel
theorem dX5_rank_27 : decode cX5_rank 27 = .ok (.aload_n 1, 1) := by decide +kernel
theorem dX5_rank_28 : decode cX5_rank 28 = .ok (.iload_n 2, 1) := by decide +kernel
theorem dX5_rank_29 : decode cX5_rank 29 = .ok (.invokevirtual 25, 3) := by decide +kernel
theorem dX5_rank_32 : decode cX5_rank 32 = .ok (.iinc 2 1, 3) := by decide +kernel
theorem dX5_rank_35 : decode cX5_rank 35 = .ok (.goto (-28), 3) := by decide +kernel
theorem dX5_rank_38 : decode cX5_rank 38 = .ok (.return_, 1) := by decide +kernel
theorem dX5_insert_0 : decode cX5_insert 0 = .ok (.aload_n 0, 1) := by decide +kernel
theorem dX5_insert_1 : decode cX5_insert 1 = .ok (.getfield 18, 3) := by decide +kernel
theorem dX5_insert_4 : decode cX5_insert 4 = .ok (.istore_n 3, 1) := by decide +kernel
theorem dX5_insert_5 : decode cX5_insert 5 = .ok (.iload_n 3, 1) := by decide +kernel
theorem dX5_insert_6 : decode cX5_insert 6 = .ok (.ifCond .le 40, 3) := by decide +kernel
theorem dX5_insert_9 : decode cX5_insert 9 = .ok (.aload_n 0, 1) := by decide +kernel
theorem dX5_insert_10 : decode cX5_insert 10 = .ok (.aload_n 1, 1) := by decide +kernel
theorem dX5_insert_11 : decode cX5_insert 11 = .ok (.iload_n 2, 1) := by decide +kernel
theorem dX5_insert_12 : decode cX5_insert 12 = .ok (.aload_n 0, 1) := by decide +kernel
theorem dX5_insert_13 : decode cX5_insert 13 = .ok (.getfield 15, 3) := by decide +kernel
theorem dX5_insert_16 : decode cX5_insert 16 = .ok (.iload_n 3, 1) := by decide +kernel
theorem dX5_insert_17 : decode cX5_insert 17 = .ok (.iconst 1, 1) := by decide +kernel
theorem dX5_insert_18 : decode cX5_insert 18 = .ok (.isub, 1) := by decide +kernel
theorem dX5_insert_19 : decode cX5_insert 19 = .ok (.iaload, 1) := by decide +kernel
theorem dX5_insert_20 : decode cX5_insert 20 = .ok (.invokevirtual 29, 3) := by decide +kernel
theorem dX5_insert_23 : decode cX5_insert 23 = .ok (.ifCond .eq 23, 3) := by decide +kernel
theorem dX5_insert_26 : decode cX5_insert 26 = .ok (.aload_n 0, 1) := by decide +kernel
theorem dX5_insert_27 : decode cX5_insert 27 = .ok (.getfield 15, 3) := by decide +kernel
theorem dX5_insert_30 : decode cX5_insert 30 = .ok (.iload_n 3, 1) := by decide +kernel
theorem dX5_insert_31 : decode cX5_insert 31 = .ok (.aload_n 0, 1) := by decide +kernel
theorem dX5_insert_32 : decode cX5_insert 32 = .ok (.getfield 15, 3) := by decide +kernel
theorem dX5_insert_35 : decode cX5_insert 35 = .ok (.iload_n 3, 1) := by decide +kernel
theorem dX5_insert_36 : decode cX5_insert 36 = .ok (.iconst 1, 1) := by decide +kernel
theorem dX5_insert_37 : decode cX5_insert 37 = .ok (.isub, 1) := by decide +kernel
theorem dX5_insert_38 : decode cX5_insert 38 = .ok (.iaload, 1) := by decide +kernel
theorem dX5_insert_39 : decode cX5_insert 39 = .ok (.iastore, 1) := by decide +kernel
theorem dX5_insert_40 : decode cX5_insert 40 = .ok (.iinc 3 (-1), 3) := by decide +kernel
theorem dX5_insert_43 : decode cX5_insert 43 = .ok (.goto (-38), 3) := by decide +kernel
theorem dX5_insert_46 : decode cX5_insert 46 = .ok (.aload_n 0, 1) := by decide +kernel
theorem dX5_insert_47 : decode cX5_insert 47 = .ok (.getfield 15, 3) := by decide +kernel
theorem dX5_insert_50 : decode cX5_insert 50 = .ok (.iload_n 3, 1) := by decide +kernel
theorem dX5_insert_51 : decode cX5_insert 51 = .ok (.iload_n 2, 1) := by decide +kernel
theorem dX5_insert_52 : decode cX5_insert 52 = .ok (.iastore, 1) := by decide +kernel
theorem dX5_insert_53 : decode cX5_insert 53 = .ok (.aload_n 0, 1) := by decide +kernel
theorem dX5_insert_54 : decode cX5_insert 54 = .ok (.dup, 1) := by decide +kernel
theorem dX5_insert_55 : decode cX5_insert 55 = .ok (.getfield 18, 3) := by decide +kernel
theorem dX5_insert_58 : decode cX5_insert 58 = .ok (.iconst 1, 1) := by decide +kernel
theorem dX5_insert_59 : decode cX5_insert 59 = .ok (.iadd, 1) := by decide +kernel
theorem dX5_insert_60 : decode cX5_insert 60 = .ok (.putfield 18, 3) := by decide +kernel
theorem dX5_insert_63 : decode cX5_insert 63 = .ok (.return_, 1) := by decide +kernel
theorem dX5_isFirst_0 : decode cX5_isFirst 0 = .ok (.aload_n 0, 1) := by decide +kernel
theorem dX5_isFirst_1 : decode cX5_isFirst 1 = .ok (.getfield 9, 3) := by decide +kernel
theorem dX5_isFirst_4 : decode cX5_isFirst 4 = .ok (.iload_n 2, 1) := by decide +kernel
theorem dX5_isFirst_5 : decode cX5_isFirst 5 = .ok (.iaload, 1) := by decide +kernel
theorem dX5_isFirst_6 : decode cX5_isFirst 6 = .ok (.bipush (-4), 2) := by decide +kernel
theorem dX5_isFirst_8 : decode cX5_isFirst 8 = .ok (.if_icmp .ne 5, 3) := by decide +kernel
theorem dX5_isFirst_11 : decode cX5_isFirst 11 = .ok (.iconst 0, 1) := by decide +kernel
theorem dX5_isFirst_12 : decode cX5_isFirst 12 = .ok (.ireturn, 1) := by decide +kernel
theorem dX5_isFirst_13 : decode cX5_isFirst 13 = .ok (.iconst 0, 1) := by decide +kernel
theorem dX5_isFirst_14 : decode cX5_isFirst 14 = .ok (.istore_n 3, 1) := by decide +kernel
theorem dX5_isFirst_15 : decode cX5_isFirst 15 = .ok (.iload_n 3, 1) := by decide +kernel
theorem dX5_isFirst_16 : decode cX5_isFirst 16 = .ok (.aload_n 1, 1) := by decide +kernel
theorem dX5_isFirst_17 : decode cX5_isFirst 17 = .ok (.getfield 22, 3) := by decide +kernel
theorem dX5_isFirst_20 : decode cX5_isFirst 20 = .ok (.if_icmp .ge 37, 3) := by decide +kernel
theorem dX5_isFirst_23 : decode cX5_isFirst 23 = .ok (.iload_n 3, 1) := by decide +kernel
theorem dX5_isFirst_24 : decode cX5_isFirst 24 = .ok (.iload_n 2, 1) := by decide +kernel
theorem dX5_isFirst_25 : decode cX5_isFirst 25 = .ok (.if_icmp .eq 26, 3) := by decide +kernel
theorem dX5_isFirst_28 : decode cX5_isFirst 28 = .ok (.aload_n 0, 1) := by decide +kernel
theorem dX5_isFirst_29 : decode cX5_isFirst 29 = .ok (.getfield 9, 3) := by decide +kernel
theorem dX5_isFirst_32 : decode cX5_isFirst 32 = .ok (.iload_n 3, 1) := by decide +kernel
theorem dX5_isFirst_33 : decode cX5_isFirst 33 = .ok (.iaload, 1) := by decide +kernel
theorem dX5_isFirst_34 : decode cX5_isFirst 34 = .ok (.bipush (-4), 2) := by decide +kernel
theorem dX5_isFirst_36 : decode cX5_isFirst 36 = .ok (.if_icmp .eq 15, 3) := by decide +kernel
theorem dX5_isFirst_39 : decode cX5_isFirst 39 = .ok (.aload_n 0, 1) := by decide +kernel
theorem dX5_isFirst_40 : decode cX5_isFirst 40 = .ok (.aload_n 1, 1) := by decide +kernel
theorem dX5_isFirst_41 : decode cX5_isFirst 41 = .ok (.iload_n 3, 1) := by decide +kernel
theorem dX5_isFirst_42 : decode cX5_isFirst 42 = .ok (.iload_n 2, 1) := by decide +kernel
theorem dX5_isFirst_43 : decode cX5_isFirst 43 = .ok (.invokevirtual 29, 3) := by decide +kernel
theorem dX5_isFirst_46 : decode cX5_isFirst 46 = .ok (.ifCond .eq 5, 3) := by decide +kernel
theorem dX5_isFirst_49 : decode cX5_isFirst 49 = .ok (.iconst 0, 1) := by decide +kernel
theorem dX5_isFirst_50 : decode cX5_isFirst 50 = .ok (.ireturn, 1) := by decide +kernel
theorem dX5_isFirst_51 : decode cX5_isFirst 51 = .ok (.iinc 3 1, 3) := by decide +kernel
theorem dX5_isFirst_54 : decode cX5_isFirst 54 = .ok (.goto (-39), 3) := by decide +kernel
theorem dX5_isFirst_57 : decode cX5_isFirst 57 = .ok (.iconst 1, 1) := by decide +kernel
theorem dX5_isFirst_58 : decode cX5_isFirst 58 = .ok (.ireturn, 1) := by decide +kernel
theorem dX5_isAhead_0 : decode cX5_isAhead 0 = .ok (.aload_n 0, 1) := by decide +kernel
theorem dX5_isAhead_1 : decode cX5_isAhead 1 = .ok (.getfield 9, 3) := by decide +kernel
theorem dX5_isAhead_4 : decode cX5_isAhead 4 = .ok (.iload_n 2, 1) := by decide +kernel
theorem dX5_isAhead_5 : decode cX5_isAhead 5 = .ok (.iaload, 1) := by decide +kernel
theorem dX5_isAhead_6 : decode cX5_isAhead 6 = .ok (.aload_n 0, 1) := by decide +kernel
theorem dX5_isAhead_7 : decode cX5_isAhead 7 = .ok (.getfield 9, 3) := by decide +kernel
theorem dX5_isAhead_10 : decode cX5_isAhead 10 = .ok (.iload_n 3, 1) := by decide +kernel
theorem dX5_isAhead_11 : decode cX5_isAhead 11 = .ok (.iaload, 1) := by decide +kernel
theorem dX5_isAhead_12 : decode cX5_isAhead 12 = .ok (.if_icmp .eq 24, 3) := by decide +kernel
theorem dX5_isAhead_15 : decode cX5_isAhead 15 = .ok (.aload_n 0, 1) := by decide +kernel
theorem dX5_isAhead_16 : decode cX5_isAhead 16 = .ok (.getfield 9, 3) := by decide +kernel
theorem dX5_isAhead_19 : decode cX5_isAhead 19 = .ok (.iload_n 2, 1) := by decide +kernel
theorem dX5_isAhead_20 : decode cX5_isAhead 20 = .ok (.iaload, 1) := by decide +kernel
theorem dX5_isAhead_21 : decode cX5_isAhead 21 = .ok (.aload_n 0, 1) := by decide +kernel
theorem dX5_isAhead_22 : decode cX5_isAhead 22 = .ok (.getfield 9, 3) := by decide +kernel
theorem dX5_isAhead_25 : decode cX5_isAhead 25 = .ok (.iload_n 3, 1) := by decide +kernel
theorem dX5_isAhead_26 : decode cX5_isAhead 26 = .ok (.iaload, 1) := by decide +kernel
theorem dX5_isAhead_27 : decode cX5_isAhead 27 = .ok (.if_icmp .le 7, 3) := by decide +kernel
theorem dX5_isAhead_30 : decode cX5_isAhead 30 = .ok (.iconst 1, 1) := by decide +kernel
theorem dX5_isAhead_31 : decode cX5_isAhead 31 = .ok (.goto 4, 3) := by decide +kernel
theorem dX5_isAhead_34 : decode cX5_isAhead 34 = .ok (.iconst 0, 1) := by decide +kernel
theorem dX5_isAhead_35 : decode cX5_isAhead 35 = .ok (.ireturn, 1) := by decide +kernel
theorem dX5_isAhead_36 : decode cX5_isAhead 36 = .ok (.aload_n 1, 1) := by decide +kernel
theorem dX5_isAhead_37 : decode cX5_isAhead 37 = .ok (.getfield 33, 3) := by decide +kernel
theorem dX5_isAhead_40 : decode cX5_isAhead 40 = .ok (.iload_n 2, 1) := by decide +kernel
theorem dX5_isAhead_41 : decode cX5_isAhead 41 = .ok (.aaload, 1) := by decide +kernel
theorem dX5_isAhead_42 : decode cX5_isAhead 42 = .ok (.astore 4, 2) := by decide +kernel
theorem dX5_isAhead_44 : decode cX5_isAhead 44 = .ok (.aload_n 1, 1) := by decide +kernel
theorem dX5_isAhead_45 : decode cX5_isAhead 45 = .ok (.getfield 33, 3) := by decide +kernel
theorem dX5_isAhead_48 : decode cX5_isAhead 48 = .ok (.iload_n 3, 1) := by decide +kernel
theorem dX5_isAhead_49 : decode cX5_isAhead 49 = .ok (.aaload, 1) := by decide +kernel
theorem dX5_isAhead_50 : decode cX5_isAhead 50 = .ok (.astore 5, 2) := by decide +kernel
theorem dX5_isAhead_52 : decode cX5_isAhead 52 = .ok (.aload 4, 2) := by decide +kernel
theorem dX5_isAhead_54 : decode cX5_isAhead 54 = .ok (.getfield 37, 3) := by decide +kernel
theorem dX5_isAhead_57 : decode cX5_isAhead 57 = .ok (.aload 5, 2) := by decide +kernel
theorem dX5_isAhead_59 : decode cX5_isAhead 59 = .ok (.getfield 37, 3) := by decide +kernel
theorem dX5_isAhead_62 : decode cX5_isAhead 62 = .ok (.if_icmp .eq 22, 3) := by decide +kernel
theorem dX5_isAhead_65 : decode cX5_isAhead 65 = .ok (.aload 4, 2) := by decide +kernel
theorem dX5_isAhead_67 : decode cX5_isAhead 67 = .ok (.getfield 37, 3) := by decide +kernel
theorem dX5_isAhead_70 : decode cX5_isAhead 70 = .ok (.aload 5, 2) := by decide +kernel
theorem dX5_isAhead_72 : decode cX5_isAhead 72 = .ok (.getfield 37, 3) := by decide +kernel
theorem dX5_isAhead_75 : decode cX5_isAhead 75 = .ok (.if_icmp .le 7, 3) := by decide +kernel
theorem dX5_isAhead_78 : decode cX5_isAhead 78 = .ok (.iconst 1, 1) := by decide +kernel
theorem dX5_isAhead_79 : decode cX5_isAhead 79 = .ok (.goto 4, 3) := by decide +kernel
theorem dX5_isAhead_82 : decode cX5_isAhead 82 = .ok (.iconst 0, 1) := by decide +kernel
theorem dX5_isAhead_83 : decode cX5_isAhead 83 = .ok (.ireturn, 1) := by decide +kernel
theorem dX5_isAhead_84 : decode cX5_isAhead 84 = .ok (.aload 4, 2) := by decide +kernel
theorem dX5_isAhead_86 : decode cX5_isAhead 86 = .ok (.getfield 42, 3) := by decide +kernel
theorem dX5_isAhead_89 : decode cX5_isAhead 89 = .ok (.aload 5, 2) := by decide +kernel
theorem dX5_isAhead_91 : decode cX5_isAhead 91 = .ok (.getfield 42, 3) := by decide +kernel
theorem dX5_isAhead_94 : decode cX5_isAhead 94 = .ok (.if_icmp .eq 24, 3) := by decide +kernel
theorem dX5_isAhead_97 : decode cX5_isAhead 97 = .ok (.aload 4, 2) := by decide +kernel
theorem dX5_isAhead_99 : decode cX5_isAhead 99 = .ok (.getfield 42, 3) := by decide +kernel
theorem dX5_isAhead_102 : decode cX5_isAhead 102 = .ok (.aload 5, 2) := by decide +kernel
theorem dX5_isAhead_104 : decode cX5_isAhead 104 = .ok (.getfield 42, 3) := by decide +kernel
theorem dX5_isAhead_107 : decode cX5_isAhead 107 = .ok (.if_icmp .ge 7, 3) := by decide +kernel
theorem dX5_isAhead_110 : decode cX5_isAhead 110 = .ok (.iconst 1, 1) := by decide +kernel
theorem dX5_isAhead_111 : decode cX5_isAhead 111 = .ok (.goto 17, 3) := by decide +kernel
theorem dX5_isAhead_114 : decode cX5_isAhead 114 = .ok (.iconst 0, 1) := by decide +kernel
theorem dX5_isAhead_115 : decode cX5_isAhead 115 = .ok (.goto 13, 3) := by decide +kernel
theorem dX5_isAhead_118 : decode cX5_isAhead 118 = .ok (.iload_n 2, 1) := by decide +kernel
theorem dX5_isAhead_119 : decode cX5_isAhead 119 = .ok (.iload_n 3, 1) := by decide +kernel
theorem dX5_isAhead_120 : decode cX5_isAhead 120 = .ok (.if_icmp .ge 7, 3) := by decide +kernel
theorem dX5_isAhead_123 : decode cX5_isAhead 123 = .ok (.iconst 1, 1) := by decide +kernel
theorem dX5_isAhead_124 : decode cX5_isAhead 124 = .ok (.goto 4, 3) := by decide +kernel
theorem dX5_isAhead_127 : decode cX5_isAhead 127 = .ok (.iconst 0, 1) := by decide +kernel
theorem dX5_isAhead_128 : decode cX5_isAhead 128 = .ok (.ireturn, 1) := by decide +kernel
theorem dX6_init_0 : decode cX6_init 0 = .ok (.aload_n 0, 1) := by decide +kernel
theorem dX6_init_1 : decode cX6_init 1 = .ok (.invokespecial 3, 3) := by decide +kernel
theorem dX6_init_4 : decode cX6_init 4 = .ok (.aload_n 0, 1) := by decide +kernel
theorem dX6_init_5 : decode cX6_init 5 = .ok (.iconst 0, 1) := by decide +kernel
theorem dX6_init_6 : decode cX6_init 6 = .ok (.putfield 9, 3) := by decide +kernel
theorem dX6_init_9 : decode cX6_init 9 = .ok (.aload_n 0, 1) := by decide +kernel
theorem dX6_init_10 : decode cX6_init 10 = .ok (.iconst 0, 1) := by decide +kernel
theorem dX6_init_11 : decode cX6_init 11 = .ok (.putfield 15, 3) := by decide +kernel
theorem dX6_init_14 : decode cX6_init 14 = .ok (.aload_n 0, 1) := by decide +kernel
theorem dX6_init_15 : decode cX6_init 15 = .ok (.iconst 0, 1) := by decide +kernel
theorem dX6_init_16 : decode cX6_init 16 = .ok (.putfield 18, 3) := by decide +kernel
theorem dX6_init_19 : decode cX6_init 19 = .ok (.return_, 1) := by decide +kernel
theorem dX6_setDefaults_0 : decode cX6_setDefaults 0 = .ok (.aload_n 0, 1) := by decide +kernel
theorem dX6_setDefaults_1 : decode cX6_setDefaults 1 = .ok (.iconst 3, 1) := by decide +kernel
theorem dX6_setDefaults_2 : decode cX6_setDefaults 2 = .ok (.iconst 2, 1) := by decide +kernel
theorem dX6_setDefaults_3 : decode cX6_setDefaults 3 = .ok (.iconst 1, 1) := by decide +kernel
theorem dX6_setDefaults_4 : decode cX6_setDefaults 4 = .ok (.invokevirtual 21, 3) := by decide +kernel
theorem dX6_setDefaults_7 : decode cX6_setDefaults 7 = .ok (.return_, 1) := by decide +kernel
theorem dX6_set_0 : decode cX6_set 0 = .ok (.aload_n 0, 1) := by decide +kernel
theorem dX6_set_1 : decode cX6_set 1 = .ok (.iload_n 1, 1) := by decide +kernel
theorem dX6_set_2 : decode cX6_set 2 = .ok (.putfield 9, 3) := by decide +kernel
theorem dX6_set_5 : decode cX6_set 5 = .ok (.aload_n 0, 1) := by decide +kernel
theorem dX6_set_6 : decode cX6_set 6 = .ok (.iload_n 2, 1) := by decide +kernel
theorem dX6_set_7 : decode cX6_set 7 = .ok (.putfield 15, 3) := by decide +kernel
theorem dX6_set_10 : decode cX6_set 10 = .ok (.aload_n 0, 1) := by decide +kernel
theorem dX6_set_11 : decode cX6_set 11 = .ok (.iload_n 3, 1) := by decide +kernel
theorem dX6_set_12 : decode cX6_set 12 = .ok (.putfield 18, 3) := by decide +kernel
theorem dX6_set_15 : decode cX6_set 15 = .ok (.return_, 1) := by decide +kernel
theorem dX6_ofPlace_0 : decode cX6_ofPlace 0 = .ok (.aload_n 1, 1) := by decide +kernel
theorem dX6_ofPlace_1 : decode cX6_ofPlace 1 = .ok (.getfield 25, 3) := by decide +kernel
theorem dX6_ofPlace_4 : decode cX6_ofPlace 4 = .ok (.iconst 1, 1) := by decide +kernel
theorem dX6_ofPlace_5 : decode cX6_ofPlace 5 = .ok (.iload_n 2, 1) := by decide +kernel
theorem dX6_ofPlace_6 : decode cX6_ofPlace 6 = .ok (.ishl, 1) := by decide +kernel
theorem dX6_ofPlace_7 : decode cX6_ofPlace 7 = .ok (.iand, 1) := by decide +kernel
theorem dX6_ofPlace_8 : decode cX6_ofPlace 8 = .ok (.ifCond .ne 6, 3) := by decide +kernel
theorem dX6_ofPlace_11 : decode cX6_ofPlace 11 = .ok (.bipush 50, 2) := by decide +kernel
theorem dX6_ofPlace_13 : decode cX6_ofPlace 13 = .ok (.ireturn, 1) := by decide +kernel
theorem dX6_ofPlace_14 : decode cX6_ofPlace 14 = .ok (.aload_n 1, 1) := by decide +kernel
theorem dX6_ofPlace_15 : decode cX6_ofPlace 15 = .ok (.getfield 30, 3) := by decide +kernel
theorem dX6_ofPlace_18 : decode cX6_ofPlace 18 = .ok (.iconst 2, 1) := by decide +kernel
theorem dX6_ofPlace_19 : decode cX6_ofPlace 19 = .ok (.if_icmp .ne 11, 3) := by decide +kernel
theorem dX6_ofPlace_22 : decode cX6_ofPlace 22 = .ok (.iload_n 2, 1) := by decide +kernel
theorem dX6_ofPlace_23 : decode cX6_ofPlace 23 = .ok (.ifCond .ne 7, 3) := by decide +kernel
theorem dX6_ofPlace_26 : decode cX6_ofPlace 26 = .ok (.iconst 1, 1) := by decide +kernel
theorem dX6_ofPlace_27 : decode cX6_ofPlace 27 = .ok (.goto 4, 3) := by decide +kernel
theorem dX6_ofPlace_30 : decode cX6_ofPlace 30 = .ok (.iconst 0, 1) := by decide +kernel
theorem dX6_ofPlace_31 : decode cX6_ofPlace 31 = .ok (.istore_n 3, 1) := by decide +kernel
theorem dX6_ofPlace_32 : decode cX6_ofPlace 32 = .ok (.bipush 50, 2) := by decide +kernel
theorem dX6_ofPlace_34 : decode cX6_ofPlace 34 = .ok (.iload_n 3, 1) := by decide +kernel
theorem dX6_ofPlace_35 : decode cX6_ofPlace 35 = .ok (.ifCond .eq 12, 3) := by decide +kernel
theorem dX6_ofPlace_38 : decode cX6_ofPlace 38 = .ok (.iconst 2, 1) := by decide +kernel
theorem dX6_ofPlace_39 : decode cX6_ofPlace 39 = .ok (.aload_n 0, 1) := by decide +kernel
theorem dX6_ofPlace_40 : decode cX6_ofPlace 40 = .ok (.getfield 9, 3) := by decide +kernel
theorem dX6_ofPlace_43 : decode cX6_ofPlace 43 = .ok (.imul, 1) := by decide +kernel
theorem dX6_ofPlace_44 : decode cX6_ofPlace 44 = .ok (.goto 7, 3) := by decide +kernel
theorem dX6_ofPlace_47 : decode cX6_ofPlace 47 = .ok (.aload_n 0, 1) := by decide +kernel
theorem dX6_ofPlace_48 : decode cX6_ofPlace 48 = .ok (.getfield 9, 3) := by decide +kernel
theorem dX6_ofPlace_51 : decode cX6_ofPlace 51 = .ok (.iadd, 1) := by decide +kernel
theorem dX6_ofPlace_52 : decode cX6_ofPlace 52 = .ok (.ireturn, 1) := by decide +kernel
theorem dX6_ofStep_0 : decode cX6_ofStep 0 = .ok (.iload_n 3, 1) := by decide +kernel
theorem dX6_ofStep_1 : decode cX6_ofStep 1 = .ok (.iload_n 2, 1) := by decide +kernel
theorem dX6_ofStep_2 : decode cX6_ofStep 2 = .ok (.iconst 1, 1) := by decide +kernel
theorem dX6_ofStep_3 : decode cX6_ofStep 3 = .ok (.iadd, 1) := by decide +kernel
theorem dX6_ofStep_4 : decode cX6_ofStep 4 = .ok (.if_icmp .ne 8, 3) := by decide +kernel
theorem dX6_ofStep_7 : decode cX6_ofStep 7 = .ok (.aload_n 0, 1) := by decide +kernel
theorem dX6_ofStep_8 : decode cX6_ofStep 8 = .ok (.getfield 15, 3) := by decide +kernel
theorem dX6_ofStep_11 : decode cX6_ofStep 11 = .ok (.ireturn, 1) := by decide +kernel
theorem dX6_ofStep_12 : decode cX6_ofStep 12 = .ok (.aload_n 1, 1) := by decide +kernel
theorem dX6_ofStep_13 : decode cX6_ofStep 13 = .ok (.getfield 30, 3) := by decide +kernel
theorem dX6_ofStep_16 : decode cX6_ofStep 16 = .ok (.iconst 3, 1) := by decide +kernel
theorem dX6_ofStep_17 : decode cX6_ofStep 17 = .ok (.if_icmp .ne 7, 3) := by decide +kernel
theorem dX6_ofStep_20 : decode cX6_ofStep 20 = .ok (.iconst 0, 1) := by decide +kernel
theorem dX6_ofStep_21 : decode cX6_ofStep 21 = .ok (.goto 14, 3) := by decide +kernel
theorem dX6_ofStep_24 : decode cX6_ofStep 24 = .ok (.aload_n 0, 1) := by decide +kernel
theorem dX6_ofStep_25 : decode cX6_ofStep 25 = .ok (.getfield 18, 3) := by decide +kernel
theorem dX6_ofStep_28 : decode cX6_ofStep 28 = .ok (.ineg, 1) := by decide +kernel
theorem dX6_ofStep_29 : decode cX6_ofStep 29 = .ok (.iload_n 3, 1) := by decide +kernel
theorem dX6_ofStep_30 : decode cX6_ofStep 30 = .ok (.iload_n 2, 1) := by decide +kernel
theorem dX6_ofStep_31 : decode cX6_ofStep 31 = .ok (.isub, 1) := by decide +kernel
theorem dX6_ofStep_32 : decode cX6_ofStep 32 = .ok (.iconst 1, 1) := by decide +kernel
theorem dX6_ofStep_33 : decode cX6_ofStep 33 = .ok (.isub, 1) := by decide +kernel
theorem dX6_ofStep_34 : decode cX6_ofStep 34 = .ok (.imul, 1) := by decide +kernel
theorem dX6_ofStep_35 : decode cX6_ofStep 35 = .ok (.ireturn, 1) := by decide +kernel
theorem dX7_init_0 : decode cX7_init 0 = .ok (.aload_n 0, 1) := by decide +kernel
theorem dX7_init_1 : decode cX7_init 1 = .ok (.invokespecial 3, 3) := by decide +kernel
theorem dX7_init_4 : decode cX7_init 4 = .ok (.aload_n 0, 1) := by decide +kernel
theorem dX7_init_5 : decode cX7_init 5 = .ok (.sipush 200, 3) := by decide +kernel
theorem dX7_init_8 : decode cX7_init 8 = .ok (.newarray .char, 2) := by decide +kernel
theorem dX7_init_10 : decode cX7_init 10 = .ok (.putfield 9, 3) := by decide +kernel
theorem dX7_init_13 : decode cX7_init 13 = .ok (.aload_n 0, 1) := by decide +kernel
theorem dX7_init_14 : decode cX7_init 14 = .ok (.iconst 0, 1) := by decide +kernel
theorem dX7_init_15 : decode cX7_init 15 = .ok (.putfield 15, 3) := by decide +kernel
theorem dX7_init_18 : decode cX7_init 18 = .ok (.return_, 1) := by decide +kernel
theorem dX7_append_0 : decode cX7_append 0 = .ok (.aload_n 0, 1) := by decide +kernel
theorem dX7_append_1 : decode cX7_append 1 = .ok (.getfield 15, 3) := by decide +kernel
theorem dX7_append_4 : decode cX7_append 4 = .ok (.sipush 200, 3) := by decide +kernel
theorem dX7_append_7 : decode cX7_append 7 = .ok (.if_icmp .ge 23, 3) := by decide +kernel
theorem dX7_append_10 : decode cX7_append 10 = .ok (.aload_n 0, 1) := by decide +kernel
theorem dX7_append_11 : decode cX7_append 11 = .ok (.getfield 9, 3) := by decide +kernel
theorem dX7_append_14 : decode cX7_append 14 = .ok (.aload_n 0, 1) := by decide +kernel
theorem dX7_append_15 : decode cX7_append 15 = .ok (.getfield 15, 3) := by decide +kernel
theorem dX7_append_18 : decode cX7_append 18 = .ok (.iload_n 1, 1) := by decide +kernel
theorem dX7_append_19 : decode cX7_append 19 = .ok (.castore, 1) := by decide +kernel
theorem dX7_append_20 : decode cX7_append 20 = .ok (.aload_n 0, 1) := by decide +kernel
theorem dX7_append_21 : decode cX7_append 21 = .ok (.dup, 1) := by decide +kernel
theorem dX7_append_22 : decode cX7_append 22 = .ok (.getfield 15, 3) := by decide +kernel
theorem dX7_append_25 : decode cX7_append 25 = .ok (.iconst 1, 1) := by decide +kernel
theorem dX7_append_26 : decode cX7_append 26 = .ok (.iadd, 1) := by decide +kernel
theorem dX7_append_27 : decode cX7_append 27 = .ok (.putfield 15, 3) := by decide +kernel
theorem dX7_append_30 : decode cX7_append 30 = .ok (.return_, 1) := by decide +kernel
theorem dX7_clear_0 : decode cX7_clear 0 = .ok (.aload_n 0, 1) := by decide +kernel
theorem dX7_clear_1 : decode cX7_clear 1 = .ok (.getfield 15, 3) := by decide +kernel
theorem dX7_clear_4 : decode cX7_clear 4 = .ok (.istore_n 1, 1) := by decide +kernel
theorem dX7_clear_5 : decode cX7_clear 5 = .ok (.aload_n 0, 1) := by decide +kernel
theorem dX7_clear_6 : decode cX7_clear 6 = .ok (.iconst 0, 1) := by decide +kernel
theorem dX7_clear_7 : decode cX7_clear 7 = .ok (.putfield 15, 3) := by decide +kernel
theorem dX7_clear_10 : decode cX7_clear 10 = .ok (.iload_n 1, 1) := by decide +kernel
theorem dX7_clear_11 : decode cX7_clear 11 = .ok (.ireturn, 1) := by decide +kernel
theorem dX7_at_0 : decode cX7_at 0 = .ok (.iload_n 1, 1) := by decide +kernel
theorem dX7_at_1 : decode cX7_at 1 = .ok (.ifCond .lt 20, 3) := by decide +kernel
theorem dX7_at_4 : decode cX7_at 4 = .ok (.iload_n 1, 1) := by decide +kernel
theorem dX7_at_5 : decode cX7_at 5 = .ok (.aload_n 0, 1) := by decide +kernel
theorem dX7_at_6 : decode cX7_at 6 = .ok (.getfield 15, 3) := by decide +kernel
theorem dX7_at_9 : decode cX7_at 9 = .ok (.if_icmp .ge 12, 3) := by decide +kernel
theorem dX7_at_12 : decode cX7_at 12 = .ok (.aload_n 0, 1) := by decide +kernel
theorem dX7_at_13 : decode cX7_at 13 = .ok (.getfield 9, 3) := by decide +kernel
theorem dX7_at_16 : decode cX7_at 16 = .ok (.iload_n 1, 1) := by decide +kernel
theorem dX7_at_17 : decode cX7_at 17 = .ok (.caload, 1) := by decide +kernel
theorem dX7_at_18 : decode cX7_at 18 = .ok (.goto 4, 3) := by decide +kernel
theorem dX7_at_21 : decode cX7_at 21 = .ok (.iconst 0, 1) := by decide +kernel
theorem dX7_at_22 : decode cX7_at 22 = .ok (.ireturn, 1) := by decide +kernel
theorem dX7_figureAt_0 : decode cX7_figureAt 0 = .ok (.aload_n 0, 1) := by decide +kernel
theorem dX7_figureAt_1 : decode cX7_figureAt 1 = .ok (.iload_n 1, 1) := by decide +kernel
theorem dX7_figureAt_2 : decode cX7_figureAt 2 = .ok (.invokevirtual 19, 3) := by decide +kernel
theorem dX7_figureAt_5 : decode cX7_figureAt 5 = .ok (.bipush 48, 2) := by decide +kernel
theorem dX7_figureAt_7 : decode cX7_figureAt 7 = .ok (.isub, 1) := by decide +kernel
theorem dX7_figureAt_8 : decode cX7_figureAt 8 = .ok (.ireturn, 1) := by decide +kernel
theorem dX7_firstFault_0 : decode cX7_firstFault 0 = .ok (.iconst 0, 1) := by decide +kernel
theorem dX7_firstFault_1 : decode cX7_firstFault 1 = .ok (.istore_n 1, 1) := by decide +kernel
theorem dX7_firstFault_2 : decode cX7_firstFault 2 = .ok (.iconst 0, 1) := by decide +kernel
theorem dX7_firstFault_3 : decode cX7_firstFault 3 = .ok (.istore_n 2, 1) := by decide +kernel
theorem dX7_firstFault_4 : decode cX7_firstFault 4 = .ok (.iconst 0, 1) := by decide +kernel
theorem dX7_firstFault_5 : decode cX7_firstFault 5 = .ok (.istore_n 3, 1) := by decide +kernel
theorem dX7_firstFault_6 : decode cX7_firstFault 6 = .ok (.iload_n 3, 1) := by decide +kernel
theorem dX7_firstFault_7 : decode cX7_firstFault 7 = .ok (.sipush 200, 3) := by decide +kernel
theorem dX7_firstFault_10 : decode cX7_firstFault 10 = .ok (.if_icmp .ge 54, 3) := by decide +kernel
theorem dX7_firstFault_13 : decode cX7_firstFault 13 = .ok (.iload_n 1, 1) := by decide +kernel
theorem dX7_firstFault_14 : decode cX7_firstFault 14 = .ok (.aload_n 0, 1) := by decide +kernel
theorem dX7_firstFault_15 : decode cX7_firstFault 15 = .ok (.getfield 15, 3) := by decide +kernel
theorem dX7_firstFault_18 : decode cX7_firstFault 18 = .ok (.if_icmp .ge 46, 3) := by decide +kernel
theorem dX7_firstFault_21 : decode cX7_firstFault 21 = .ok (.aload_n 0, 1) := by decide +kernel
theorem dX7_firstFault_22 : decode cX7_firstFault 22 = .ok (.iload_n 1, 1) := by decide +kernel
theorem dX7_firstFault_23 : decode cX7_firstFault 23 = .ok (.invokevirtual 23, 3) := by decide +kernel
theorem dX7_firstFault_26 : decode cX7_firstFault 26 = .ok (.istore 4, 2) := by decide +kernel
theorem dX7_firstFault_28 : decode cX7_firstFault 28 = .ok (.aload_n 0, 1) := by decide +kernel
theorem dX7_firstFault_29 : decode cX7_firstFault 29 = .ok (.iload_n 1, 1) := by decide +kernel
theorem dX7_firstFault_30 : decode cX7_firstFault 30 = .ok (.invokevirtual 19, 3) := by decide +kernel
theorem dX7_firstFault_33 : decode cX7_firstFault 33 = .ok (.bipush 115, 2) := by decide +kernel
theorem dX7_firstFault_35 : decode cX7_firstFault 35 = .ok (.if_icmp .ne 6, 3) := by decide +kernel
theorem dX7_firstFault_38 : decode cX7_firstFault 38 = .ok (.iinc 2 1, 3) := by decide +kernel
theorem dX7_firstFault_41 : decode cX7_firstFault 41 = .ok (.iload 4, 2) := by decide +kernel
theorem dX7_firstFault_43 : decode cX7_firstFault 43 = .ok (.iconst (-1), 1) := by decide +kernel
theorem dX7_firstFault_44 : decode cX7_firstFault 44 = .ok (.if_icmp .eq 9, 3) := by decide +kernel
theorem dX7_firstFault_47 : decode cX7_firstFault 47 = .ok (.iload_n 2, 1) := by decide +kernel
theorem dX7_firstFault_48 : decode cX7_firstFault 48 = .ok (.bipush 8, 2) := by decide +kernel
theorem dX7_firstFault_50 : decode cX7_firstFault 50 = .ok (.if_icmp .le 5, 3) := by decide +kernel
theorem dX7_firstFault_53 : decode cX7_firstFault 53 = .ok (.iload_n 1, 1) := by decide +kernel
theorem dX7_firstFault_54 : decode cX7_firstFault 54 = .ok (.ireturn, 1) := by decide +kernel
theorem dX7_firstFault_55 : decode cX7_firstFault 55 = .ok (.iload 4, 2) := by decide +kernel
theorem dX7_firstFault_57 : decode cX7_firstFault 57 = .ok (.istore_n 1, 1) := by decide +kernel
theorem dX7_firstFault_58 : decode cX7_firstFault 58 = .ok (.iinc 3 1, 3) := by decide +kernel
theorem dX7_firstFault_61 : decode cX7_firstFault 61 = .ok (.goto (-55), 3) := by decide +kernel
theorem dX7_firstFault_64 : decode cX7_firstFault 64 = .ok (.bipush (-4), 2) := by decide +kernel
theorem dX7_firstFault_66 : decode cX7_firstFault 66 = .ok (.ireturn, 1) := by decide +kernel
theorem dX7_hasName_0 : decode cX7_hasName 0 = .ok (.iconst 0, 1) := by decide +kernel
theorem dX7_hasName_1 : decode cX7_hasName 1 = .ok (.istore_n 1, 1) := by decide +kernel
theorem dX7_hasName_2 : decode cX7_hasName 2 = .ok (.iload_n 1, 1) := by decide +kernel
theorem dX7_hasName_3 : decode cX7_hasName 3 = .ok (.aload_n 0, 1) := by decide +kernel
theorem dX7_hasName_4 : decode cX7_hasName 4 = .ok (.getfield 15, 3) := by decide +kernel
theorem dX7_hasName_7 : decode cX7_hasName 7 = .ok (.if_icmp .ge 22, 3) := by decide +kernel
theorem dX7_hasName_10 : decode cX7_hasName 10 = .ok (.aload_n 0, 1) := by decide +kernel
theorem dX7_hasName_11 : decode cX7_hasName 11 = .ok (.getfield 9, 3) := by decide +kernel
theorem dX7_hasName_14 : decode cX7_hasName 14 = .ok (.iload_n 1, 1) := by decide +kernel
theorem dX7_hasName_15 : decode cX7_hasName 15 = .ok (.caload, 1) := by decide +kernel
theorem dX7_hasName_16 : decode cX7_hasName 16 = .ok (.bipush 115, 2) := by decide +kernel
theorem dX7_hasName_18 : decode cX7_hasName 18 = .ok (.if_icmp .ne 5, 3) := by decide +kernel
theorem dX7_hasName_21 : decode cX7_hasName 21 = .ok (.iconst 1, 1) := by decide +kernel
theorem dX7_hasName_22 : decode cX7_hasName 22 = .ok (.ireturn, 1) := by decide +kernel
theorem dX7_hasName_23 : decode cX7_hasName 23 = .ok (.iinc 1 1, 3) := by decide +kernel
theorem dX7_hasName_26 : decode cX7_hasName 26 = .ok (.goto (-24), 3) := by decide +kernel
theorem dX7_hasName_29 : decode cX7_hasName 29 = .ok (.iconst 0, 1) := by decide +kernel
theorem dX7_hasName_30 : decode cX7_hasName 30 = .ok (.ireturn, 1) := by decide +kernel
theorem dX7_behindItem_0 : decode cX7_behindItem 0 = .ok (.aload_n 0, 1) := by decide +kernel
theorem dX7_behindItem_1 : decode cX7_behindItem 1 = .ok (.iload_n 1, 1) := by decide +kernel
theorem dX7_behindItem_2 : decode cX7_behindItem 2 = .ok (.invokevirtual 19, 3) := by decide +kernel
theorem dX7_behindItem_5 : decode cX7_behindItem 5 = .ok (.bipush 115, 2) := by decide +kernel
theorem dX7_behindItem_7 : decode cX7_behindItem 7 = .ok (.if_icmp .ne 9, 3) := by decide +kernel
theorem dX7_behindItem_10 : decode cX7_behindItem 10 = .ok (.aload_n 0, 1) := by decide +kernel
theorem dX7_behindItem_11 : decode cX7_behindItem 11 = .ok (.iload_n 1, 1) := by decide +kernel
theorem dX7_behindItem_12 : decode cX7_behindItem 12 = .ok (.invokevirtual 27, 3) := by decide +kernel
theorem dX7_behindItem_15 : decode cX7_behindItem 15 = .ok (.ireturn, 1) := by decide +kernel
theorem dX7_behindItem_16 : decode cX7_behindItem 16 = .ok (.aload_n 0, 1) := by decide +kernel
theorem dX7_behindItem_17 : decode cX7_behindItem 17 = .ok (.iload_n 1, 1) := by decide +kernel
theorem dX7_behindItem_18 : decode cX7_behindItem 18 = .ok (.invokevirtual 19, 3) := by decide +kernel
theorem dX7_behindItem_21 : decode cX7_behindItem 21 = .ok (.bipush 119, 2) := by decide +kernel
theorem dX7_behindItem_23 : decode cX7_behindItem 23 = .ok (.if_icmp .ne 11, 3) := by decide +kernel
theorem dX7_behindItem_26 : decode cX7_behindItem 26 = .ok (.aload_n 0, 1) := by decide +kernel
theorem dX7_behindItem_27 : decode cX7_behindItem 27 = .ok (.iload_n 1, 1) := by decide +kernel
theorem dX7_behindItem_28 : decode cX7_behindItem 28 = .ok (.invokevirtual 30, 3) := by decide +kernel
theorem dX7_behindItem_31 : decode cX7_behindItem 31 = .ok (.goto 4, 3) := by decide +kernel
theorem dX7_behindItem_34 : decode cX7_behindItem 34 = .ok (.iconst (-1), 1) := by decide +kernel
theorem dX7_behindItem_35 : decode cX7_behindItem 35 = .ok (.ireturn, 1) := by decide +kernel
theorem dX7_behindName_0 : decode cX7_behindName 0 = .ok (.aload_n 0, 1) := by decide +kernel
theorem dX7_behindName_1 : decode cX7_behindName 1 = .ok (.iload_n 1, 1) := by decide +kernel
theorem dX7_behindName_2 : decode cX7_behindName 2 = .ok (.iconst 1, 1) := by decide +kernel
theorem dX7_behindName_3 : decode cX7_behindName 3 = .ok (.iadd, 1) := by decide +kernel
theorem dX7_behindName_4 : decode cX7_behindName 4 = .ok (.iconst 3, 1) := by decide +kernel
theorem dX7_behindName_5 : decode cX7_behindName 5 = .ok (.invokevirtual 33, 3) := by decide +kernel
theorem dX7_behindName_8 : decode cX7_behindName 8 = .ok (.ifCond .eq 15, 3) := by decide +kernel
theorem dX7_behindName_11 : decode cX7_behindName 11 = .ok (.aload_n 0, 1) := by decide +kernel
theorem dX7_behindName_12 : decode cX7_behindName 12 = .ok (.iload_n 1, 1) := by decide +kernel
theorem dX7_behindName_13 : decode cX7_behindName 13 = .ok (.iconst 2, 1) := by decide +kernel
theorem dX7_behindName_14 : decode cX7_behindName 14 = .ok (.iadd, 1) := by decide +kernel
theorem dX7_behindName_15 : decode cX7_behindName 15 = .ok (.invokevirtual 19, 3) := by decide +kernel
theorem dX7_behindName_18 : decode cX7_behindName 18 = .ok (.bipush 44, 2) := by decide +kernel
theorem dX7_behindName_20 : decode cX7_behindName 20 = .ok (.if_icmp .eq 5, 3) := by decide +kernel
theorem dX7_behindName_23 : decode cX7_behindName 23 = .ok (.iconst (-1), 1) := by decide +kernel
theorem dX7_behindName_24 : decode cX7_behindName 24 = .ok (.ireturn, 1) := by decide +kernel
theorem dX7_behindName_25 : decode cX7_behindName 25 = .ok (.iconst 0, 1) := by decide +kernel
theorem dX7_behindName_26 : decode cX7_behindName 26 = .ok (.istore_n 2, 1) := by decide +kernel
theorem dX7_behindName_27 : decode cX7_behindName 27 = .ok (.iload_n 2, 1) := by decide +kernel
theorem dX7_behindName_28 : decode cX7_behindName 28 = .ok (.bipush 12, 2) := by decide +kernel
theorem dX7_behindName_30 : decode cX7_behindName 30 = .ok (.if_icmp .gt 24, 3) := by decide +kernel
theorem dX7_behindName_33 : decode cX7_behindName 33 = .ok (.aload_n 0, 1) := by decide +kernel
theorem dX7_behindName_34 : decode cX7_behindName 34 = .ok (.iload_n 1, 1) := by decide +kernel
theorem dX7_behindName_35 : decode cX7_behindName 35 = .ok (.iconst 3, 1) := by decide +kernel
theorem dX7_behindName_36 : decode cX7_behindName 36 = .ok (.iadd, 1) := by decide +kernel
theorem dX7_behindName_37 : decode cX7_behindName 37 = .ok (.iload_n 2, 1) := by decide +kernel
theorem dX7_behindName_38 : decode cX7_behindName 38 = .ok (.iadd, 1) := by decide +kernel
theorem dX7_behindName_39 : decode cX7_behindName 39 = .ok (.invokevirtual 19, 3) := by decide +kernel
theorem dX7_behindName_42 : decode cX7_behindName 42 = .ok (.invokestatic 37, 3) := by decide +kernel
theorem dX7_behindName_45 : decode cX7_behindName 45 = .ok (.ifCond .eq 9, 3) := by decide +kernel
theorem dX7_behindName_48 : decode cX7_behindName 48 = .ok (.iinc 2 1, 3) := by decide +kernel
theorem dX7_behindName_51 : decode cX7_behindName 51 = .ok (.goto (-24), 3) := by decide +kernel
theorem dX7_behindName_54 : decode cX7_behindName 54 = .ok (.iload_n 2, 1) := by decide +kernel
theorem dX7_behindName_55 : decode cX7_behindName 55 = .ok (.iconst 1, 1) := by decide +kernel
theorem dX7_behindName_56 : decode cX7_behindName 56 = .ok (.if_icmp .lt 27, 3) := by decide +kernel
theorem dX7_behindName_59 : decode cX7_behindName 59 = .ok (.iload_n 2, 1) := by decide +kernel
theorem dX7_behindName_60 : decode cX7_behindName 60 = .ok (.bipush 12, 2) := by decide +kernel
theorem dX7_behindName_62 : decode cX7_behindName 62 = .ok (.if_icmp .gt 21, 3) := by decide +kernel
theorem dX7_behindName_65 : decode cX7_behindName 65 = .ok (.aload_n 0, 1) := by decide +kernel
theorem dX7_behindName_66 : decode cX7_behindName 66 = .ok (.iload_n 1, 1) := by decide +kernel
theorem dX7_behindName_67 : decode cX7_behindName 67 = .ok (.iconst 3, 1) := by decide +kernel
theorem dX7_behindName_68 : decode cX7_behindName 68 = .ok (.iadd, 1) := by decide +kernel
theorem dX7_behindName_69 : decode cX7_behindName 69 = .ok (.iload_n 2, 1) := by decide +kernel
theorem dX7_behindName_70 : decode cX7_behindName 70 = .ok (.iadd, 1) := by decide +kernel
theorem dX7_behindName_71 : decode cX7_behindName 71 = .ok (.invokevirtual 19, 3) := by decide +kernel
theorem dX7_behindName_74 : decode cX7_behindName 74 = .ok (.bipush 59, 2) := by decide +kernel
theorem dX7_behindName_76 : decode cX7_behindName 76 = .ok (.if_icmp .ne 7, 3) := by decide +kernel
theorem dX7_behindName_79 : decode cX7_behindName 79 = .ok (.iconst 1, 1) := by decide +kernel
theorem dX7_behindName_80 : decode cX7_behindName 80 = .ok (.goto 4, 3) := by decide +kernel
theorem dX7_behindName_83 : decode cX7_behindName 83 = .ok (.iconst 0, 1) := by decide +kernel
theorem dX7_behindName_84 : decode cX7_behindName 84 = .ok (.istore_n 3, 1) := by decide +kernel
theorem dX7_behindName_85 : decode cX7_behindName 85 = .ok (.iload_n 3, 1) := by decide +kernel
theorem dX7_behindName_86 : decode cX7_behindName 86 = .ok (.ifCond .eq 11, 3) := by decide +kernel
theorem dX7_behindName_89 : decode cX7_behindName 89 = .ok (.iload_n 1, 1) := by decide +kernel
theorem dX7_behindName_90 : decode cX7_behindName 90 = .ok (.iconst 4, 1) := by decide +kernel
theorem dX7_behindName_91 : decode cX7_behindName 91 = .ok (.iadd, 1) := by decide +kernel
theorem dX7_behindName_92 : decode cX7_behindName 92 = .ok (.iload_n 2, 1) := by decide +kernel
theorem dX7_behindName_93 : decode cX7_behindName 93 = .ok (.iadd, 1) := by decide +kernel
theorem dX7_behindName_94 : decode cX7_behindName 94 = .ok (.goto 4, 3) := by decide +kernel
theorem dX7_behindName_97 : decode cX7_behindName 97 = .ok (.iconst (-1), 1) := by decide +kernel
theorem dX7_behindName_98 : decode cX7_behindName 98 = .ok (.ireturn, 1) := by decide +kernel
theorem dX7_behindWorths_0 : decode cX7_behindWorths 0 = .ok (.aload_n 0, 1) := by decide +kernel
theorem dX7_behindWorths_1 : decode cX7_behindWorths 1 = .ok (.iload_n 1, 1) := by decide +kernel
theorem dX7_behindWorths_2 : decode cX7_behindWorths 2 = .ok (.iconst 1, 1) := by decide +kernel
theorem dX7_behindWorths_3 : decode cX7_behindWorths 3 = .ok (.iadd, 1) := by decide +kernel
theorem dX7_behindWorths_4 : decode cX7_behindWorths 4 = .ok (.bipush 9, 2) := by decide +kernel
theorem dX7_behindWorths_6 : decode cX7_behindWorths 6 = .ok (.invokevirtual 33, 3) := by decide +kernel
theorem dX7_behindWorths_9 : decode cX7_behindWorths 9 = .ok (.ifCond .eq 68, 3) := by decide +kernel
theorem dX7_behindWorths_12 : decode cX7_behindWorths 12 = .ok (.aload_n 0, 1) := by decide +kernel
theorem dX7_behindWorths_13 : decode cX7_behindWorths 13 = .ok (.iload_n 1, 1) := by decide +kernel
theorem dX7_behindWorths_14 : decode cX7_behindWorths 14 = .ok (.iconst 2, 1) := by decide +kernel
theorem dX7_behindWorths_15 : decode cX7_behindWorths 15 = .ok (.iadd, 1) := by decide +kernel
theorem dX7_behindWorths_16 : decode cX7_behindWorths 16 = .ok (.invokevirtual 19, 3) := by decide +kernel
theorem dX7_behindWorths_19 : decode cX7_behindWorths 19 = .ok (.bipush 44, 2) := by decide +kernel
theorem dX7_behindWorths_21 : decode cX7_behindWorths 21 = .ok (.if_icmp .ne 56, 3) := by decide +kernel
theorem dX7_behindWorths_24 : decode cX7_behindWorths 24 = .ok (.aload_n 0, 1) := by decide +kernel
theorem dX7_behindWorths_25 : decode cX7_behindWorths 25 = .ok (.iload_n 1, 1) := by decide +kernel
theorem dX7_behindWorths_26 : decode cX7_behindWorths 26 = .ok (.iconst 3, 1) := by decide +kernel
theorem dX7_behindWorths_27 : decode cX7_behindWorths 27 = .ok (.iadd, 1) := by decide +kernel
theorem dX7_behindWorths_28 : decode cX7_behindWorths 28 = .ok (.bipush 9, 2) := by decide +kernel
theorem dX7_behindWorths_30 : decode cX7_behindWorths 30 = .ok (.invokevirtual 33, 3) := by decide +kernel
theorem dX7_behindWorths_33 : decode cX7_behindWorths 33 = .ok (.ifCond .eq 44, 3) := by decide +kernel
theorem dX7_behindWorths_36 : decode cX7_behindWorths 36 = .ok (.aload_n 0, 1) := by decide +kernel
theorem dX7_behindWorths_37 : decode cX7_behindWorths 37 = .ok (.iload_n 1, 1) := by decide +kernel
theorem dX7_behindWorths_38 : decode cX7_behindWorths 38 = .ok (.iconst 4, 1) := by decide +kernel
theorem dX7_behindWorths_39 : decode cX7_behindWorths 39 = .ok (.iadd, 1) := by decide +kernel
theorem dX7_behindWorths_40 : decode cX7_behindWorths 40 = .ok (.invokevirtual 19, 3) := by decide +kernel
theorem dX7_behindWorths_43 : decode cX7_behindWorths 43 = .ok (.bipush 44, 2) := by decide +kernel
theorem dX7_behindWorths_45 : decode cX7_behindWorths 45 = .ok (.if_icmp .ne 32, 3) := by decide +kernel
theorem dX7_behindWorths_48 : decode cX7_behindWorths 48 = .ok (.aload_n 0, 1) := by decide +kernel
theorem dX7_behindWorths_49 : decode cX7_behindWorths 49 = .ok (.iload_n 1, 1) := by decide +kernel
theorem dX7_behindWorths_50 : decode cX7_behindWorths 50 = .ok (.iconst 5, 1) := by decide +kernel
theorem dX7_behindWorths_51 : decode cX7_behindWorths 51 = .ok (.iadd, 1) := by decide +kernel
theorem dX7_behindWorths_52 : decode cX7_behindWorths 52 = .ok (.bipush 9, 2) := by decide +kernel
theorem dX7_behindWorths_54 : decode cX7_behindWorths 54 = .ok (.invokevirtual 33, 3) := by decide +kernel
theorem dX7_behindWorths_57 : decode cX7_behindWorths 57 = .ok (.ifCond .eq 20, 3) := by decide +kernel
theorem dX7_behindWorths_60 : decode cX7_behindWorths 60 = .ok (.aload_n 0, 1) := by decide +kernel
theorem dX7_behindWorths_61 : decode cX7_behindWorths 61 = .ok (.iload_n 1, 1) := by decide +kernel
theorem dX7_behindWorths_62 : decode cX7_behindWorths 62 = .ok (.bipush 6, 2) := by decide +kernel
theorem dX7_behindWorths_64 : decode cX7_behindWorths 64 = .ok (.iadd, 1) := by decide +kernel
theorem dX7_behindWorths_65 : decode cX7_behindWorths 65 = .ok (.invokevirtual 19, 3) := by decide +kernel
theorem dX7_behindWorths_68 : decode cX7_behindWorths 68 = .ok (.bipush 59, 2) := by decide +kernel
theorem dX7_behindWorths_70 : decode cX7_behindWorths 70 = .ok (.if_icmp .ne 7, 3) := by decide +kernel
theorem dX7_behindWorths_73 : decode cX7_behindWorths 73 = .ok (.iconst 1, 1) := by decide +kernel
theorem dX7_behindWorths_74 : decode cX7_behindWorths 74 = .ok (.goto 4, 3) := by decide +kernel
theorem dX7_behindWorths_77 : decode cX7_behindWorths 77 = .ok (.iconst 0, 1) := by decide +kernel
theorem dX7_behindWorths_78 : decode cX7_behindWorths 78 = .ok (.istore_n 2, 1) := by decide +kernel
theorem dX7_behindWorths_79 : decode cX7_behindWorths 79 = .ok (.iload_n 2, 1) := by decide +kernel
theorem dX7_behindWorths_80 : decode cX7_behindWorths 80 = .ok (.ifCond .eq 10, 3) := by decide +kernel
theorem dX7_behindWorths_83 : decode cX7_behindWorths 83 = .ok (.iload_n 1, 1) := by decide +kernel
theorem dX7_behindWorths_84 : decode cX7_behindWorths 84 = .ok (.bipush 7, 2) := by decide +kernel
theorem dX7_behindWorths_86 : decode cX7_behindWorths 86 = .ok (.iadd, 1) := by decide +kernel
theorem dX7_behindWorths_87 : decode cX7_behindWorths 87 = .ok (.goto 4, 3) := by decide +kernel
theorem dX7_behindWorths_90 : decode cX7_behindWorths 90 = .ok (.iconst (-1), 1) := by decide +kernel
theorem dX7_behindWorths_91 : decode cX7_behindWorths 91 = .ok (.ireturn, 1) := by decide +kernel
theorem dX7_isFigure_0 : decode cX7_isFigure 0 = .ok (.aload_n 0, 1) := by decide +kernel
theorem dX7_isFigure_1 : decode cX7_isFigure 1 = .ok (.iload_n 1, 1) := by decide +kernel
theorem dX7_isFigure_2 : decode cX7_isFigure 2 = .ok (.invokevirtual 41, 3) := by decide +kernel
theorem dX7_isFigure_5 : decode cX7_isFigure 5 = .ok (.ifCond .lt 16, 3) := by decide +kernel
theorem dX7_isFigure_8 : decode cX7_isFigure 8 = .ok (.aload_n 0, 1) := by decide +kernel
theorem dX7_isFigure_9 : decode cX7_isFigure 9 = .ok (.iload_n 1, 1) := by decide +kernel
theorem dX7_isFigure_10 : decode cX7_isFigure 10 = .ok (.invokevirtual 41, 3) := by decide +kernel
theorem dX7_isFigure_13 : decode cX7_isFigure 13 = .ok (.iload_n 2, 1) := by decide +kernel
theorem dX7_isFigure_14 : decode cX7_isFigure 14 = .ok (.if_icmp .gt 7, 3) := by decide +kernel
theorem dX7_isFigure_17 : decode cX7_isFigure 17 = .ok (.iconst 1, 1) := by decide +kernel
theorem dX7_isFigure_18 : decode cX7_isFigure 18 = .ok (.goto 4, 3) := by decide +kernel
theorem dX7_isFigure_21 : decode cX7_isFigure 21 = .ok (.iconst 0, 1) := by decide +kernel
theorem dX7_isFigure_22 : decode cX7_isFigure 22 = .ok (.ireturn, 1) := by decide +kernel
theorem dX8_init_0 : decode cX8_init 0 = .ok (.aload_n 0, 1) := by decide +kernel
theorem dX8_init_1 : decode cX8_init 1 = .ok (.invokespecial 3, 3) := by decide +kernel
theorem dX8_init_4 : decode cX8_init 4 = .ok (.aload_n 0, 1) := by decide +kernel
theorem dX8_init_5 : decode cX8_init 5 = .ok (.bipush 6, 2) := by decide +kernel
theorem dX8_init_7 : decode cX8_init 7 = .ok (.newarray .char, 2) := by decide +kernel
theorem dX8_init_9 : decode cX8_init 9 = .ok (.putfield 9, 3) := by decide +kernel
theorem dX8_init_12 : decode cX8_init 12 = .ok (.aload_n 0, 1) := by decide +kernel
theorem dX8_init_13 : decode cX8_init 13 = .ok (.iconst 0, 1) := by decide +kernel
theorem dX8_init_14 : decode cX8_init 14 = .ok (.putfield 15, 3) := by decide +kernel
theorem dX8_init_17 : decode cX8_init 17 = .ok (.return_, 1) := by decide +kernel
theorem dX8_clear_0 : decode cX8_clear 0 = .ok (.aload_n 0, 1) := by decide +kernel
theorem dX8_clear_1 : decode cX8_clear 1 = .ok (.iconst 0, 1) := by decide +kernel
theorem dX8_clear_2 : decode cX8_clear 2 = .ok (.putfield 15, 3) := by decide +kernel
theorem dX8_clear_5 : decode cX8_clear 5 = .ok (.return_, 1) := by decide +kernel
theorem dX8_add_0 : decode cX8_add 0 = .ok (.aload_n 0, 1) := by decide +kernel
theorem dX8_add_1 : decode cX8_add 1 = .ok (.getfield 15, 3) := by decide +kernel
theorem dX8_add_4 : decode cX8_add 4 = .ok (.bipush 6, 2) := by decide +kernel
theorem dX8_add_6 : decode cX8_add 6 = .ok (.if_icmp .ge 23, 3) := by decide +kernel
theorem dX8_add_9 : decode cX8_add 9 = .ok (.aload_n 0, 1) := by decide +kernel
theorem dX8_add_10 : decode cX8_add 10 = .ok (.getfield 9, 3) := by decide +kernel
theorem dX8_add_13 : decode cX8_add 13 = .ok (.aload_n 0, 1) := by decide +kernel
theorem dX8_add_14 : decode cX8_add 14 = .ok (.getfield 15, 3) := by decide +kernel
theorem dX8_add_17 : decode cX8_add 17 = .ok (.iload_n 1, 1) := by decide +kernel
theorem dX8_add_18 : decode cX8_add 18 = .ok (.castore, 1) := by decide +kernel
theorem dX8_add_19 : decode cX8_add 19 = .ok (.aload_n 0, 1) := by decide +kernel
theorem dX8_add_20 : decode cX8_add 20 = .ok (.dup, 1) := by decide +kernel
theorem dX8_add_21 : decode cX8_add 21 = .ok (.getfield 15, 3) := by decide +kernel
theorem dX8_add_24 : decode cX8_add 24 = .ok (.iconst 1, 1) := by decide +kernel
theorem dX8_add_25 : decode cX8_add 25 = .ok (.iadd, 1) := by decide +kernel
theorem dX8_add_26 : decode cX8_add 26 = .ok (.putfield 15, 3) := by decide +kernel
theorem dX8_add_29 : decode cX8_add 29 = .ok (.return_, 1) := by decide +kernel
theorem dX8_removeLast_0 : decode cX8_removeLast 0 = .ok (.aload_n 0, 1) := by decide +kernel
theorem dX8_removeLast_1 : decode cX8_removeLast 1 = .ok (.getfield 15, 3) := by decide +kernel
theorem dX8_removeLast_4 : decode cX8_removeLast 4 = .ok (.ifCond .ne 6, 3) := by decide +kernel
theorem dX8_removeLast_7 : decode cX8_removeLast 7 = .ok (.bipush (-2), 2) := by decide +kernel
theorem dX8_removeLast_9 : decode cX8_removeLast 9 = .ok (.ireturn, 1) := by decide +kernel
theorem dX8_removeLast_10 : decode cX8_removeLast 10 = .ok (.aload_n 0, 1) := by decide +kernel
theorem dX8_removeLast_11 : decode cX8_removeLast 11 = .ok (.dup, 1) := by decide +kernel
theorem dX8_removeLast_12 : decode cX8_removeLast 12 = .ok (.getfield 15, 3) := by decide +kernel
theorem dX8_removeLast_15 : decode cX8_removeLast 15 = .ok (.iconst 1, 1) := by decide +kernel
theorem dX8_removeLast_16 : decode cX8_removeLast 16 = .ok (.isub, 1) := by decide +kernel
theorem dX8_removeLast_17 : decode cX8_removeLast 17 = .ok (.putfield 15, 3) := by decide +kernel
theorem dX8_removeLast_20 : decode cX8_removeLast 20 = .ok (.aload_n 0, 1) := by decide +kernel
theorem dX8_removeLast_21 : decode cX8_removeLast 21 = .ok (.getfield 9, 3) := by decide +kernel
theorem dX8_removeLast_24 : decode cX8_removeLast 24 = .ok (.aload_n 0, 1) := by decide +kernel
theorem dX8_removeLast_25 : decode cX8_removeLast 25 = .ok (.getfield 15, 3) := by decide +kernel
theorem dX8_removeLast_28 : decode cX8_removeLast 28 = .ok (.caload, 1) := by decide +kernel
theorem dX8_removeLast_29 : decode cX8_removeLast 29 = .ok (.ireturn, 1) := by decide +kernel
theorem dX8_copy_0 : decode cX8_copy 0 = .ok (.aload_n 0, 1) := by decide +kernel
theorem dX8_copy_1 : decode cX8_copy 1 = .ok (.aload_n 1, 1) := by decide +kernel
theorem dX8_copy_2 : decode cX8_copy 2 = .ok (.getfield 15, 3) := by decide +kernel
theorem dX8_copy_5 : decode cX8_copy 5 = .ok (.putfield 15, 3) := by decide +kernel
theorem dX8_copy_8 : decode cX8_copy 8 = .ok (.iconst 0, 1) := by decide +kernel
theorem dX8_copy_9 : decode cX8_copy 9 = .ok (.istore_n 2, 1) := by decide +kernel
theorem dX8_copy_10 : decode cX8_copy 10 = .ok (.iload_n 2, 1) := by decide +kernel
theorem dX8_copy_11 : decode cX8_copy 11 = .ok (.aload_n 0, 1) := by decide +kernel
theorem dX8_copy_12 : decode cX8_copy 12 = .ok (.getfield 15, 3) := by decide +kernel
theorem dX8_copy_15 : decode cX8_copy 15 = .ok (.if_icmp .ge 21, 3) := by decide +kernel
theorem dX8_copy_18 : decode cX8_copy 18 = .ok (.aload_n 0, 1) := by decide +kernel
theorem dX8_copy_19 : decode cX8_copy 19 = .ok (.getfield 9, 3) := by decide +kernel
theorem dX8_copy_22 : decode cX8_copy 22 = .ok (.iload_n 2, 1) := by decide +kernel
theorem dX8_copy_23 : decode cX8_copy 23 = .ok (.aload_n 1, 1) := by decide +kernel
theorem dX8_copy_24 : decode cX8_copy 24 = .ok (.getfield 9, 3) := by decide +kernel
theorem dX8_copy_27 : decode cX8_copy 27 = .ok (.iload_n 2, 1) := by decide +kernel
theorem dX8_copy_28 : decode cX8_copy 28 = .ok (.caload, 1) := by decide +kernel
theorem dX8_copy_29 : decode cX8_copy 29 = .ok (.castore, 1) := by decide +kernel
theorem dX8_copy_30 : decode cX8_copy 30 = .ok (.iinc 2 1, 3) := by decide +kernel
theorem dX8_copy_33 : decode cX8_copy 33 = .ok (.goto (-23), 3) := by decide +kernel
theorem dX8_copy_36 : decode cX8_copy 36 = .ok (.return_, 1) := by decide +kernel
theorem dX8_code_0 : decode cX8_code 0 = .ok (.lconst 0, 1) := by decide +kernel
theorem dX8_code_1 : decode cX8_code 1 = .ok (.lstore_n 1, 1) := by decide +kernel
theorem dX8_code_2 : decode cX8_code 2 = .ok (.iconst 0, 1) := by decide +kernel
theorem dX8_code_3 : decode cX8_code 3 = .ok (.istore_n 3, 1) := by decide +kernel
theorem dX8_code_4 : decode cX8_code 4 = .ok (.iload_n 3, 1) := by decide +kernel
theorem dX8_code_5 : decode cX8_code 5 = .ok (.aload_n 0, 1) := by decide +kernel
theorem dX8_code_6 : decode cX8_code 6 = .ok (.getfield 15, 3) := by decide +kernel
theorem dX8_code_9 : decode cX8_code 9 = .ok (.if_icmp .ge 52, 3) := by decide +kernel
theorem dX8_code_12 : decode cX8_code 12 = .ok (.aload_n 0, 1) := by decide +kernel
theorem dX8_code_13 : decode cX8_code 13 = .ok (.getfield 9, 3) := by decide +kernel
theorem dX8_code_16 : decode cX8_code 16 = .ok (.iload_n 3, 1) := by decide +kernel
theorem dX8_code_17 : decode cX8_code 17 = .ok (.caload, 1) := by decide +kernel
theorem dX8_code_18 : decode cX8_code 18 = .ok (.invokestatic 19, 3) := by decide +kernel
theorem dX8_code_21 : decode cX8_code 21 = .ok (.ifCond .eq 8, 3) := by decide +kernel
theorem dX8_code_24 : decode cX8_code 24 = .ok (.bipush 26, 2) := by decide +kernel
theorem dX8_code_26 : decode cX8_code 26 = .ok (.goto 4, 3) := by decide +kernel
theorem dX8_code_29 : decode cX8_code 29 = .ok (.iconst 0, 1) := by decide +kernel
theorem dX8_code_30 : decode cX8_code 30 = .ok (.istore 4, 2) := by decide +kernel
theorem dX8_code_32 : decode cX8_code 32 = .ok (.ldc2_w 23, 3) := by decide +kernel
theorem dX8_code_35 : decode cX8_code 35 = .ok (.lload_n 1, 1) := by decide +kernel
theorem dX8_code_36 : decode cX8_code 36 = .ok (.lmul, 1) := by decide +kernel
theorem dX8_code_37 : decode cX8_code 37 = .ok (.iload 4, 2) := by decide +kernel
theorem dX8_code_39 : decode cX8_code 39 = .ok (.i2l, 1) := by decide +kernel
theorem dX8_code_40 : decode cX8_code 40 = .ok (.ladd, 1) := by decide +kernel
theorem dX8_code_41 : decode cX8_code 41 = .ok (.aload_n 0, 1) := by decide +kernel
theorem dX8_code_42 : decode cX8_code 42 = .ok (.getfield 9, 3) := by decide +kernel
theorem dX8_code_45 : decode cX8_code 45 = .ok (.iload_n 3, 1) := by decide +kernel
theorem dX8_code_46 : decode cX8_code 46 = .ok (.caload, 1) := by decide +kernel
theorem dX8_code_47 : decode cX8_code 47 = .ok (.invokestatic 25, 3) := by decide +kernel
theorem dX8_code_50 : decode cX8_code 50 = .ok (.i2l, 1) := by decide +kernel
theorem dX8_code_51 : decode cX8_code 51 = .ok (.ladd, 1) := by decide +kernel
theorem dX8_code_52 : decode cX8_code 52 = .ok (.lconst 1, 1) := by decide +kernel
theorem dX8_code_53 : decode cX8_code 53 = .ok (.ladd, 1) := by decide +kernel
theorem dX8_code_54 : decode cX8_code 54 = .ok (.lstore_n 1, 1) := by decide +kernel
theorem dX8_code_55 : decode cX8_code 55 = .ok (.iinc 3 1, 3) := by decide +kernel
theorem dX8_code_58 : decode cX8_code 58 = .ok (.goto (-54), 3) := by decide +kernel
theorem dX8_code_61 : decode cX8_code 61 = .ok (.lload_n 1, 1) := by decide +kernel
theorem dX8_code_62 : decode cX8_code 62 = .ok (.lreturn, 1) := by decide +kernel
theorem dX8_letterBits_0 : decode cX8_letterBits 0 = .ok (.iconst 0, 1) := by decide +kernel
theorem dX8_letterBits_1 : decode cX8_letterBits 1 = .ok (.istore_n 1, 1) := by decide +kernel
theorem dX8_letterBits_2 : decode cX8_letterBits 2 = .ok (.iconst 0, 1) := by decide +kernel
theorem dX8_letterBits_3 : decode cX8_letterBits 3 = .ok (.istore_n 2, 1) := by decide +kernel
theorem dX8_letterBits_4 : decode cX8_letterBits 4 = .ok (.iload_n 2, 1) := by decide +kernel
theorem dX8_letterBits_5 : decode cX8_letterBits 5 = .ok (.aload_n 0, 1) := by decide +kernel
theorem dX8_letterBits_6 : decode cX8_letterBits 6 = .ok (.getfield 15, 3) := by decide +kernel
theorem dX8_letterBits_9 : decode cX8_letterBits 9 = .ok (.if_icmp .ge 23, 3) := by decide +kernel
theorem dX8_letterBits_12 : decode cX8_letterBits 12 = .ok (.iload_n 1, 1) := by decide +kernel
theorem dX8_letterBits_13 : decode cX8_letterBits 13 = .ok (.iconst 1, 1) := by decide +kernel
theorem dX8_letterBits_14 : decode cX8_letterBits 14 = .ok (.aload_n 0, 1) := by decide +kernel
theorem dX8_letterBits_15 : decode cX8_letterBits 15 = .ok (.getfield 9, 3) := by decide +kernel
theorem dX8_letterBits_18 : decode cX8_letterBits 18 = .ok (.iload_n 2, 1) := by decide +kernel
theorem dX8_letterBits_19 : decode cX8_letterBits 19 = .ok (.caload, 1) := by decide +kernel
theorem dX8_letterBits_20 : decode cX8_letterBits 20 = .ok (.invokestatic 25, 3) := by decide +kernel
theorem dX8_letterBits_23 : decode cX8_letterBits 23 = .ok (.ishl, 1) := by decide +kernel
theorem dX8_letterBits_24 : decode cX8_letterBits 24 = .ok (.ior, 1) := by decide +kernel
theorem dX8_letterBits_25 : decode cX8_letterBits 25 = .ok (.istore_n 1, 1) := by decide +kernel
theorem dX8_letterBits_26 : decode cX8_letterBits 26 = .ok (.iinc 2 1, 3) := by decide +kernel
theorem dX8_letterBits_29 : decode cX8_letterBits 29 = .ok (.goto (-25), 3) := by decide +kernel
theorem dX8_letterBits_32 : decode cX8_letterBits 32 = .ok (.iload_n 1, 1) := by decide +kernel
theorem dX8_letterBits_33 : decode cX8_letterBits 33 = .ok (.ireturn, 1) := by decide +kernel
theorem dX9_init_0 : decode cX9_init 0 = .ok (.aload_n 0, 1) := by decide +kernel
theorem dX9_init_1 : decode cX9_init 1 = .ok (.invokespecial 1, 3) := by decide +kernel
theorem dX9_init_4 : decode cX9_init 4 = .ok (.aload_n 0, 1) := by decide +kernel
theorem dX9_init_5 : decode cX9_init 5 = .ok (.new 7, 3) := by decide +kernel
theorem dX9_init_8 : decode cX9_init 8 = .ok (.dup, 1) := by decide +kernel
theorem dX9_init_9 : decode cX9_init 9 = .ok (.invokespecial 9, 3) := by decide +kernel
theorem dX9_init_12 : decode cX9_init 12 = .ok (.putfield 10, 3) := by decide +kernel
theorem dX9_init_15 : decode cX9_init 15 = .ok (.aload_n 0, 1) := by decide +kernel
theorem dX9_init_16 : decode cX9_init 16 = .ok (.new 16, 3) := by decide +kernel
theorem dX9_init_19 : decode cX9_init 19 = .ok (.dup, 1) := by decide +kernel
theorem dX9_init_20 : decode cX9_init 20 = .ok (.invokespecial 18, 3) := by decide +kernel
theorem dX9_init_23 : decode cX9_init 23 = .ok (.putfield 19, 3) := by decide +kernel
theorem dX9_init_26 : decode cX9_init 26 = .ok (.aload_n 0, 1) := by decide +kernel
theorem dX9_init_27 : decode cX9_init 27 = .ok (.new 23, 3) := by decide +kernel
theorem dX9_init_30 : decode cX9_init 30 = .ok (.dup, 1) := by decide +kernel
theorem dX9_init_31 : decode cX9_init 31 = .ok (.invokespecial 25, 3) := by decide +kernel
theorem dX9_init_34 : decode cX9_init 34 = .ok (.putfield 26, 3) := by decide +kernel
theorem dX9_init_37 : decode cX9_init 37 = .ok (.aload_n 0, 1) := by decide +kernel
theorem dX9_init_38 : decode cX9_init 38 = .ok (.new 30, 3) := by decide +kernel
theorem dX9_init_41 : decode cX9_init 41 = .ok (.dup, 1) := by decide +kernel
theorem dX9_init_42 : decode cX9_init 42 = .ok (.invokespecial 32, 3) := by decide +kernel
theorem dX9_init_45 : decode cX9_init 45 = .ok (.putfield 33, 3) := by decide +kernel
theorem dX9_init_48 : decode cX9_init 48 = .ok (.aload_n 0, 1) := by decide +kernel
theorem dX9_init_49 : decode cX9_init 49 = .ok (.new 30, 3) := by decide +kernel
theorem dX9_init_52 : decode cX9_init 52 = .ok (.dup, 1) := by decide +kernel
theorem dX9_init_53 : decode cX9_init 53 = .ok (.invokespecial 32, 3) := by decide +kernel
theorem dX9_init_56 : decode cX9_init 56 = .ok (.putfield 37, 3) := by decide +kernel
theorem dX9_init_59 : decode cX9_init 59 = .ok (.aload_n 0, 1) := by decide +kernel
theorem dX9_init_60 : decode cX9_init 60 = .ok (.iconst 2, 1) := by decide +kernel
theorem dX9_init_61 : decode cX9_init 61 = .ok (.anewarray 30, 3) := by decide +kernel
theorem dX9_init_64 : decode cX9_init 64 = .ok (.putfield 40, 3) := by decide +kernel
theorem dX9_init_67 : decode cX9_init 67 = .ok (.aload_n 0, 1) := by decide +kernel
theorem dX9_init_68 : decode cX9_init 68 = .ok (.new 44, 3) := by decide +kernel
theorem dX9_init_71 : decode cX9_init 71 = .ok (.dup, 1) := by decide +kernel
theorem dX9_init_72 : decode cX9_init 72 = .ok (.invokespecial 46, 3) := by decide +kernel
theorem dX9_init_75 : decode cX9_init 75 = .ok (.putfield 47, 3) := by decide +kernel
theorem dX9_init_78 : decode cX9_init 78 = .ok (.aload_n 0, 1) := by decide +kernel
theorem dX9_init_79 : decode cX9_init 79 = .ok (.new 51, 3) := by decide +kernel
theorem dX9_init_82 : decode cX9_init 82 = .ok (.dup, 1) := by decide +kernel
theorem dX9_init_83 : decode cX9_init 83 = .ok (.invokespecial 53, 3) := by decide +kernel
theorem dX9_init_86 : decode cX9_init 86 = .ok (.putfield 54, 3) := by decide +kernel
theorem dX9_init_89 : decode cX9_init 89 = .ok (.aload_n 0, 1) := by decide +kernel
theorem dX9_init_90 : decode cX9_init 90 = .ok (.new 58, 3) := by decide +kernel
theorem dX9_init_93 : decode cX9_init 93 = .ok (.dup, 1) := by decide +kernel
theorem dX9_init_94 : decode cX9_init 94 = .ok (.invokespecial 60, 3) := by decide +kernel
theorem dX9_init_97 : decode cX9_init 97 = .ok (.putfield 61, 3) := by decide +kernel
theorem dX9_init_100 : decode cX9_init 100 = .ok (.aload_n 0, 1) := by decide +kernel
theorem dX9_init_101 : decode cX9_init 101 = .ok (.new 65, 3) := by decide +kernel
theorem dX9_init_104 : decode cX9_init 104 = .ok (.dup, 1) := by decide +kernel
theorem dX9_init_105 : decode cX9_init 105 = .ok (.invokespecial 67, 3) := by decide +kernel
theorem dX9_init_108 : decode cX9_init 108 = .ok (.putfield 68, 3) := by decide +kernel
theorem dX9_init_111 : decode cX9_init 111 = .ok (.aload_n 0, 1) := by decide +kernel
theorem dX9_init_112 : decode cX9_init 112 = .ok (.iconst 0, 1) := by decide +kernel
theorem dX9_init_113 : decode cX9_init 113 = .ok (.putfield 72, 3) := by decide +kernel
theorem dX9_init_116 : decode cX9_init 116 = .ok (.aload_n 0, 1) := by decide +kernel
theorem dX9_init_117 : decode cX9_init 117 = .ok (.iconst 0, 1) := by decide +kernel
theorem dX9_init_118 : decode cX9_init 118 = .ok (.putfield 76, 3) := by decide +kernel
theorem dX9_init_121 : decode cX9_init 121 = .ok (.aload_n 0, 1) := by decide +kernel
theorem dX9_init_122 : decode cX9_init 122 = .ok (.iconst 0, 1) := by decide +kernel
theorem dX9_init_123 : decode cX9_init 123 = .ok (.putfield 79, 3) := by decide +kernel
theorem dX9_init_126 : decode cX9_init 126 = .ok (.aload_n 0, 1) := by decide +kernel
theorem dX9_init_127 : decode cX9_init 127 = .ok (.iconst 1, 1) := by decide +kernel
theorem dX9_init_128 : decode cX9_init 128 = .ok (.putfield 82, 3) := by decide +kernel
theorem dX9_init_131 : decode cX9_init 131 = .ok (.iconst 0, 1) := by decide +kernel
theorem dX9_init_132 : decode cX9_init 132 = .ok (.istore_n 1, 1) := by decide +kernel
theorem dX9_init_133 : decode cX9_init 133 = .ok (.iload_n 1, 1) := by decide +kernel
theorem dX9_init_134 : decode cX9_init 134 = .ok (.iconst 2, 1) := by decide +kernel
theorem dX9_init_135 : decode cX9_init 135 = .ok (.if_icmp .ge 22, 3) := by decide +kernel
theorem dX9_init_138 : decode cX9_init 138 = .ok (.aload_n 0, 1) := by decide +kernel
theorem dX9_init_139 : decode cX9_init 139 = .ok (.getfield 40, 3) := by decide +kernel
theorem dX9_init_142 : decode cX9_init 142 = .ok (.iload_n 1, 1) := by decide +kernel
theorem dX9_init_143 : decode cX9_init 143 = .ok (.new 30, 3) := by decide +kernel
theorem dX9_init_146 : decode cX9_init 146 = .ok (.dup, 1) := by decide +kernel
theorem dX9_init_147 : decode cX9_init 147 = .ok (.invokespecial 32, 3) := by decide +kernel
theorem dX9_init_150 : decode cX9_init 150 = .ok (.aastore, 1) := by decide +kernel
theorem dX9_init_151 : decode cX9_init 151 = .ok (.iinc 1 1, 3) := by decide +kernel
theorem dX9_init_154 : decode cX9_init 154 = .ok (.goto (-21), 3) := by decide +kernel
theorem dX9_init_157 : decode cX9_init 157 = .ok (.iconst 0, 1) := by decide +kernel
theorem dX9_init_158 : decode cX9_init 158 = .ok (.istore_n 1, 1) := by decide +kernel
theorem dX9_init_159 : decode cX9_init 159 = .ok (.iload_n 1, 1) := by decide +kernel
theorem dX9_init_160 : decode cX9_init 160 = .ok (.ldc 85, 2) := by decide +kernel
theorem dX9_init_162 : decode cX9_init 162 = .ok (.invokevirtual 87, 3) := by decide +kernel
theorem dX9_init_165 : decode cX9_init 165 = .ok (.if_icmp .ge 22, 3) := by decide +kernel
theorem dX9_init_168 : decode cX9_init 168 = .ok (.aload_n 0, 1) := by decide +kernel
theorem dX9_init_169 : decode cX9_init 169 = .ok (.getfield 10, 3) := by decide +kernel
theorem dX9_init_172 : decode cX9_init 172 = .ok (.ldc 85, 2) := by decide +kernel
theorem dX9_init_174 : decode cX9_init 174 = .ok (.iload_n 1, 1) := by decide +kernel
theorem dX9_init_175 : decode cX9_init 175 = .ok (.invokevirtual 93, 3) := by decide +kernel
theorem dX9_init_178 : decode cX9_init 178 = .ok (.invokevirtual 97, 3) := by decide +kernel
theorem dX9_init_181 : decode cX9_init 181 = .ok (.iinc 1 1, 3) := by decide +kernel
theorem dX9_init_184 : decode cX9_init 184 = .ok (.goto (-25), 3) := by decide +kernel
theorem dX9_init_187 : decode cX9_init 187 = .ok (.aload_n 0, 1) := by decide +kernel
theorem dX9_init_188 : decode cX9_init 188 = .ok (.invokevirtual 101, 3) := by decide +kernel
theorem dX9_init_191 : decode cX9_init 191 = .ok (.aload_n 0, 1) := by decide +kernel
theorem dX9_init_192 : decode cX9_init 192 = .ok (.getfield 10, 3) := by decide +kernel
theorem dX9_init_195 : decode cX9_init 195 = .ok (.invokevirtual 104, 3) := by decide +kernel
theorem dX9_init_198 : decode cX9_init 198 = .ok (.pop, 1) := by decide +kernel
theorem dX9_init_199 : decode cX9_init 199 = .ok (.return_, 1) := by decide +kernel
theorem dX9_write_0 : decode cX9_write 0 = .ok (.iload_n 1, 1) := by decide +kernel
theorem dX9_write_1 : decode cX9_write 1 = .ok (.bipush 32, 2) := by decide +kernel
theorem dX9_write_3 : decode cX9_write 3 = .ok (.if_icmp .lt 9, 3) := by decide +kernel
theorem dX9_write_6 : decode cX9_write 6 = .ok (.iload_n 1, 1) := by decide +kernel
theorem dX9_write_7 : decode cX9_write 7 = .ok (.bipush 126, 2) := by decide +kernel
theorem dX9_write_9 : decode cX9_write 9 = .ok (.if_icmp .le 5, 3) := by decide +kernel
theorem dX9_write_12 : decode cX9_write 12 = .ok (.iconst (-1), 1) := by decide +kernel
theorem dX9_write_13 : decode cX9_write 13 = .ok (.ireturn, 1) := by decide +kernel
theorem dX9_write_14 : decode cX9_write 14 = .ok (.aload_n 0, 1) := by decide +kernel
theorem dX9_write_15 : decode cX9_write 15 = .ok (.getfield 10, 3) := by decide +kernel
theorem dX9_write_18 : decode cX9_write 18 = .ok (.getfield 107, 3) := by decide +kernel
theorem dX9_write_21 : decode cX9_write 21 = .ok (.sipush 200, 3) := by decide +kernel
theorem dX9_write_24 : decode cX9_write 24 = .ok (.if_icmp .lt 6, 3) := by decide +kernel
theorem dX9_write_27 : decode cX9_write 27 = .ok (.bipush (-3), 2) := by decide +kernel
theorem dX9_write_29 : decode cX9_write 29 = .ok (.ireturn, 1) := by decide +kernel
theorem dX9_write_30 : decode cX9_write 30 = .ok (.aload_n 0, 1) := by decide +kernel
theorem dX9_write_31 : decode cX9_write 31 = .ok (.getfield 10, 3) := by decide +kernel
theorem dX9_write_34 : decode cX9_write 34 = .ok (.iload_n 1, 1) := by decide +kernel
theorem dX9_write_35 : decode cX9_write 35 = .ok (.i2c, 1) := by decide +kernel
theorem dX9_write_36 : decode cX9_write 36 = .ok (.invokevirtual 97, 3) := by decide +kernel
theorem dX9_write_39 : decode cX9_write 39 = .ok (.aload_n 0, 1) := by decide +kernel
theorem dX9_write_40 : decode cX9_write 40 = .ok (.getfield 10, 3) := by decide +kernel
theorem dX9_write_43 : decode cX9_write 43 = .ok (.getfield 107, 3) := by decide +kernel
theorem dX9_write_46 : decode cX9_write 46 = .ok (.ireturn, 1) := by decide +kernel
theorem dX9_wipe_0 : decode cX9_wipe 0 = .ok (.aload_n 0, 1) := by decide +kernel
theorem dX9_wipe_1 : decode cX9_wipe 1 = .ok (.getfield 10, 3) := by decide +kernel
theorem dX9_wipe_4 : decode cX9_wipe 4 = .ok (.invokevirtual 104, 3) := by decide +kernel
theorem dX9_wipe_7 : decode cX9_wipe 7 = .ok (.ireturn, 1) := by decide +kernel
theorem dX9_fault_0 : decode cX9_fault 0 = .ok (.aload_n 0, 1) := by decide +kernel
theorem dX9_fault_1 : decode cX9_fault 1 = .ok (.getfield 10, 3) := by decide +kernel
theorem dX9_fault_4 : decode cX9_fault 4 = .ok (.invokevirtual 110, 3) := by decide +kernel
theorem dX9_fault_7 : decode cX9_fault 7 = .ok (.ireturn, 1) := by decide +kernel
theorem dX9_lay_0 : decode cX9_lay 0 = .ok (.aload_n 0, 1) := by decide +kernel
theorem dX9_lay_1 : decode cX9_lay 1 = .ok (.getfield 10, 3) := by decide +kernel
theorem dX9_lay_4 : decode cX9_lay 4 = .ok (.invokevirtual 110, 3) := by decide +kernel
theorem dX9_lay_7 : decode cX9_lay 7 = .ok (.bipush (-4), 2) := by decide +kernel
theorem dX9_lay_9 : decode cX9_lay 9 = .ok (.if_icmp .ne 13, 3) := by decide +kernel
theorem dX9_lay_12 : decode cX9_lay 12 = .ok (.aload_n 0, 1) := by decide +kernel
theorem dX9_lay_13 : decode cX9_lay 13 = .ok (.getfield 10, 3) := by decide +kernel
theorem dX9_lay_16 : decode cX9_lay 16 = .ok (.invokevirtual 113, 3) := by decide +kernel
theorem dX9_lay_19 : decode cX9_lay 19 = .ok (.ifCond .ne 6, 3) := by decide +kernel
theorem dX9_lay_22 : decode cX9_lay 22 = .ok (.bipush (-2), 2) := by decide +kernel
theorem dX9_lay_24 : decode cX9_lay 24 = .ok (.ireturn, 1) := by decide +kernel
theorem dX9_lay_25 : decode cX9_lay 25 = .ok (.aload_n 0, 1) := by decide +kernel
theorem dX9_lay_26 : decode cX9_lay 26 = .ok (.invokevirtual 101, 3) := by decide +kernel
theorem dX9_lay_29 : decode cX9_lay 29 = .ok (.aload_n 0, 1) := by decide +kernel
theorem dX9_lay_30 : decode cX9_lay 30 = .ok (.getfield 19, 3) := by decide +kernel
theorem dX9_lay_33 : decode cX9_lay 33 = .ok (.getfield 117, 3) := by decide +kernel
theorem dX9_lay_36 : decode cX9_lay 36 = .ok (.ireturn, 1) := by decide +kernel
theorem dX9_name_0 : decode cX9_name 0 = .ok (.aload_n 0, 1) := by decide +kernel
theorem dX9_name_1 : decode cX9_name 1 = .ok (.getfield 19, 3) := by decide +kernel
theorem dX9_name_4 : decode cX9_name 4 = .ok (.iload_n 1, 1) := by decide +kernel
theorem dX9_name_5 : decode cX9_name 5 = .ok (.invokevirtual 118, 3) := by decide +kernel
theorem dX9_name_8 : decode cX9_name 8 = .ok (.ifCond .ne 5, 3) := by decide +kernel
theorem dX9_name_11 : decode cX9_name 11 = .ok (.iconst (-1), 1) := by decide +kernel
theorem dX9_name_12 : decode cX9_name 12 = .ok (.ireturn, 1) := by decide +kernel
theorem dX9_name_13 : decode cX9_name 13 = .ok (.aload_n 0, 1) := by decide +kernel
theorem dX9_name_14 : decode cX9_name 14 = .ok (.getfield 19, 3) := by decide +kernel
theorem dX9_name_17 : decode cX9_name 17 = .ok (.getfield 122, 3) := by decide +kernel
theorem dX9_name_20 : decode cX9_name 20 = .ok (.iload_n 1, 1) := by decide +kernel
theorem dX9_name_21 : decode cX9_name 21 = .ok (.aaload, 1) := by decide +kernel
theorem dX9_name_22 : decode cX9_name 22 = .ok (.astore_n 3, 1) := by decide +kernel
theorem dX9_name_23 : decode cX9_name 23 = .ok (.iload_n 2, 1) := by decide +kernel
theorem dX9_name_24 : decode cX9_name 24 = .ok (.tableswitch 61 0 4 #[36, 41, 46, 51, 56], 36) := by decide +kernel
theorem dX9_name_60 : decode cX9_name 60 = .ok (.aload_n 3, 1) := by decide +kernel
theorem dX9_name_61 : decode cX9_name 61 = .ok (.getfield 126, 3) := by decide +kernel
theorem dX9_name_64 : decode cX9_name 64 = .ok (.ireturn, 1) := by decide +kernel
theorem dX9_name_65 : decode cX9_name 65 = .ok (.aload_n 3, 1) := by decide +kernel
theorem dX9_name_66 : decode cX9_name 66 = .ok (.getfield 131, 3) := by decide +kernel
theorem dX9_name_69 : decode cX9_name 69 = .ok (.ireturn, 1) := by decide +kernel
theorem dX9_name_70 : decode cX9_name 70 = .ok (.aload_n 3, 1) := by decide +kernel
theorem dX9_name_71 : decode cX9_name 71 = .ok (.getfield 132, 3) := by decide +kernel
theorem dX9_name_74 : decode cX9_name 74 = .ok (.ireturn, 1) := by decide +kernel
theorem dX9_name_75 : decode cX9_name 75 = .ok (.aload_n 3, 1) := by decide +kernel
theorem dX9_name_76 : decode cX9_name 76 = .ok (.getfield 135, 3) := by decide +kernel
theorem dX9_name_79 : decode cX9_name 79 = .ok (.ireturn, 1) := by decide +kernel
theorem dX9_name_80 : decode cX9_name 80 = .ok (.aload_n 3, 1) := by decide +kernel
theorem dX9_name_81 : decode cX9_name 81 = .ok (.getfield 138, 3) := by decide +kernel
theorem dX9_name_84 : decode cX9_name 84 = .ok (.ireturn, 1) := by decide +kernel
theorem dX9_name_85 : decode cX9_name 85 = .ok (.iconst (-1), 1) := by decide +kernel
theorem dX9_name_86 : decode cX9_name 86 = .ok (.ireturn, 1) := by decide +kernel
theorem dX9_layText_0 : decode cX9_layText 0 = .ok (.aload_n 0, 1) := by decide +kernel
theorem dX9_layText_1 : decode cX9_layText 1 = .ok (.getfield 19, 3) := by decide +kernel
theorem dX9_layText_4 : decode cX9_layText 4 = .ok (.invokevirtual 145, 3) := by decide +kernel
theorem dX9_layText_7 : decode cX9_layText 7 = .ok (.aload_n 0, 1) := by decide +kernel
theorem dX9_layText_8 : decode cX9_layText 8 = .ok (.getfield 26, 3) := by decide +kernel
theorem dX9_layText_11 : decode cX9_layText 11 = .ok (.invokevirtual 147, 3) := by decide +kernel
theorem dX9_layText_14 : decode cX9_layText 14 = .ok (.iconst 0, 1) := by decide +kernel
theorem dX9_layText_15 : decode cX9_layText 15 = .ok (.istore_n 1, 1) := by decide +kernel
theorem dX9_layText_16 : decode cX9_layText 16 = .ok (.iconst 0, 1) := by decide +kernel
theorem dX9_layText_17 : decode cX9_layText 17 = .ok (.istore_n 2, 1) := by decide +kernel
theorem dX9_layText_18 : decode cX9_layText 18 = .ok (.iload_n 2, 1) := by decide +kernel
theorem dX9_layText_19 : decode cX9_layText 19 = .ok (.sipush 200, 3) := by decide +kernel
theorem dX9_layText_22 : decode cX9_layText 22 = .ok (.if_icmp .ge 38, 3) := by decide +kernel
theorem dX9_layText_25 : decode cX9_layText 25 = .ok (.iload_n 1, 1) := by decide +kernel
theorem dX9_layText_26 : decode cX9_layText 26 = .ok (.ifCond .lt 34, 3) := by decide +kernel
theorem dX9_layText_29 : decode cX9_layText 29 = .ok (.iload_n 1, 1) := by decide +kernel
theorem dX9_layText_30 : decode cX9_layText 30 = .ok (.aload_n 0, 1) := by decide +kernel
theorem dX9_layText_31 : decode cX9_layText 31 = .ok (.getfield 10, 3) := by decide +kernel
theorem dX9_layText_34 : decode cX9_layText 34 = .ok (.getfield 107, 3) := by decide +kernel
theorem dX9_layText_37 : decode cX9_layText 37 = .ok (.if_icmp .ge 23, 3) := by decide +kernel
theorem dX9_layText_40 : decode cX9_layText 40 = .ok (.aload_n 0, 1) := by decide +kernel
theorem dX9_layText_41 : decode cX9_layText 41 = .ok (.iload_n 1, 1) := by decide +kernel
theorem dX9_layText_42 : decode cX9_layText 42 = .ok (.invokevirtual 150, 3) := by decide +kernel
theorem dX9_layText_45 : decode cX9_layText 45 = .ok (.aload_n 0, 1) := by decide +kernel
theorem dX9_layText_46 : decode cX9_layText 46 = .ok (.getfield 10, 3) := by decide +kernel
theorem dX9_layText_49 : decode cX9_layText 49 = .ok (.iload_n 1, 1) := by decide +kernel
theorem dX9_layText_50 : decode cX9_layText 50 = .ok (.invokevirtual 154, 3) := by decide +kernel
theorem dX9_layText_53 : decode cX9_layText 53 = .ok (.istore_n 1, 1) := by decide +kernel
theorem dX9_layText_54 : decode cX9_layText 54 = .ok (.iinc 2 1, 3) := by decide +kernel
theorem dX9_layText_57 : decode cX9_layText 57 = .ok (.goto (-39), 3) := by decide +kernel
theorem dX9_layText_60 : decode cX9_layText 60 = .ok (.aload_n 0, 1) := by decide +kernel
theorem dX9_layText_61 : decode cX9_layText 61 = .ok (.getfield 33, 3) := by decide +kernel
theorem dX9_layText_64 : decode cX9_layText 64 = .ok (.invokevirtual 158, 3) := by decide +kernel
theorem dX9_layText_67 : decode cX9_layText 67 = .ok (.aload_n 0, 1) := by decide +kernel
theorem dX9_layText_68 : decode cX9_layText 68 = .ok (.iconst 0, 1) := by decide +kernel
theorem dX9_layText_69 : decode cX9_layText 69 = .ok (.putfield 72, 3) := by decide +kernel
theorem dX9_layText_72 : decode cX9_layText 72 = .ok (.aload_n 0, 1) := by decide +kernel
theorem dX9_layText_73 : decode cX9_layText 73 = .ok (.dup, 1) := by decide +kernel
theorem dX9_layText_74 : decode cX9_layText 74 = .ok (.getfield 79, 3) := by decide +kernel
theorem dX9_layText_77 : decode cX9_layText 77 = .ok (.iconst 1, 1) := by decide +kernel
theorem dX9_layText_78 : decode cX9_layText 78 = .ok (.iadd, 1) := by decide +kernel
theorem dX9_layText_79 : decode cX9_layText 79 = .ok (.putfield 79, 3) := by decide +kernel
theorem dX9_layText_82 : decode cX9_layText 82 = .ok (.return_, 1) := by decide +kernel
theorem dX9_readItem_0 : decode cX9_readItem 0 = .ok (.aload_n 0, 1) := by decide +kernel
theorem dX9_readItem_1 : decode cX9_readItem 1 = .ok (.getfield 10, 3) := by decide +kernel
theorem dX9_readItem_4 : decode cX9_readItem 4 = .ok (.iload_n 1, 1) := by decide +kernel
theorem dX9_readItem_5 : decode cX9_readItem 5 = .ok (.invokevirtual 159, 3) := by decide +kernel
theorem dX9_readItem_8 : decode cX9_readItem 8 = .ok (.bipush 119, 2) := by decide +kernel
theorem dX9_readItem_10 : decode cX9_readItem 10 = .ok (.if_icmp .ne 41, 3) := by decide +kernel
theorem dX9_readItem_13 : decode cX9_readItem 13 = .ok (.aload_n 0, 1) := by decide +kernel
theorem dX9_readItem_14 : decode cX9_readItem 14 = .ok (.getfield 26, 3) := by decide +kernel
theorem dX9_readItem_17 : decode cX9_readItem 17 = .ok (.aload_n 0, 1) := by decide +kernel
theorem dX9_readItem_18 : decode cX9_readItem 18 = .ok (.getfield 10, 3) := by decide +kernel
theorem dX9_readItem_21 : decode cX9_readItem 21 = .ok (.iload_n 1, 1) := by decide +kernel
theorem dX9_readItem_22 : decode cX9_readItem 22 = .ok (.iconst 1, 1) := by decide +kernel
theorem dX9_readItem_23 : decode cX9_readItem 23 = .ok (.iadd, 1) := by decide +kernel
theorem dX9_readItem_24 : decode cX9_readItem 24 = .ok (.invokevirtual 162, 3) := by decide +kernel
theorem dX9_readItem_27 : decode cX9_readItem 27 = .ok (.aload_n 0, 1) := by decide +kernel
theorem dX9_readItem_28 : decode cX9_readItem 28 = .ok (.getfield 10, 3) := by decide +kernel
theorem dX9_readItem_31 : decode cX9_readItem 31 = .ok (.iload_n 1, 1) := by decide +kernel
theorem dX9_readItem_32 : decode cX9_readItem 32 = .ok (.iconst 3, 1) := by decide +kernel
theorem dX9_readItem_33 : decode cX9_readItem 33 = .ok (.iadd, 1) := by decide +kernel
theorem dX9_readItem_34 : decode cX9_readItem 34 = .ok (.invokevirtual 162, 3) := by decide +kernel
theorem dX9_readItem_37 : decode cX9_readItem 37 = .ok (.aload_n 0, 1) := by decide +kernel
theorem dX9_readItem_38 : decode cX9_readItem 38 = .ok (.getfield 10, 3) := by decide +kernel
theorem dX9_readItem_41 : decode cX9_readItem 41 = .ok (.iload_n 1, 1) := by decide +kernel
theorem dX9_readItem_42 : decode cX9_readItem 42 = .ok (.iconst 5, 1) := by decide +kernel
theorem dX9_readItem_43 : decode cX9_readItem 43 = .ok (.iadd, 1) := by decide +kernel
theorem dX9_readItem_44 : decode cX9_readItem 44 = .ok (.invokevirtual 162, 3) := by decide +kernel
theorem dX9_readItem_47 : decode cX9_readItem 47 = .ok (.invokevirtual 165, 3) := by decide +kernel
theorem dX9_readItem_50 : decode cX9_readItem 50 = .ok (.return_, 1) := by decide +kernel
theorem dX9_readItem_51 : decode cX9_readItem 51 = .ok (.aload_n 0, 1) := by decide +kernel
theorem dX9_readItem_52 : decode cX9_readItem 52 = .ok (.getfield 19, 3) := by decide +kernel
theorem dX9_readItem_55 : decode cX9_readItem 55 = .ok (.getfield 117, 3) := by decide +kernel
theorem dX9_readItem_58 : decode cX9_readItem 58 = .ok (.bipush 8, 2) := by decide +kernel
theorem dX9_readItem_60 : decode cX9_readItem 60 = .ok (.if_icmp .lt 4, 3) := by decide +kernel
theorem dX9_readItem_63 : decode cX9_readItem 63 = .ok (.return_, 1) := by decide +kernel
theorem dX9_readItem_64 : decode cX9_readItem 64 = .ok (.aload_n 0, 1) := by decide +kernel
theorem dX9_readItem_65 : decode cX9_readItem 65 = .ok (.getfield 19, 3) := by decide +kernel
theorem dX9_readItem_68 : decode cX9_readItem 68 = .ok (.aload_n 0, 1) := by decide +kernel
theorem dX9_readItem_69 : decode cX9_readItem 69 = .ok (.getfield 10, 3) := by decide +kernel
theorem dX9_readItem_72 : decode cX9_readItem 72 = .ok (.iload_n 1, 1) := by decide +kernel
theorem dX9_readItem_73 : decode cX9_readItem 73 = .ok (.iconst 1, 1) := by decide +kernel
theorem dX9_readItem_74 : decode cX9_readItem 74 = .ok (.iadd, 1) := by decide +kernel
theorem dX9_readItem_75 : decode cX9_readItem 75 = .ok (.invokevirtual 162, 3) := by decide +kernel
theorem dX9_readItem_78 : decode cX9_readItem 78 = .ok (.invokevirtual 169, 3) := by decide +kernel
theorem dX9_readItem_81 : decode cX9_readItem 81 = .ok (.astore_n 2, 1) := by decide +kernel
theorem dX9_readItem_82 : decode cX9_readItem 82 = .ok (.iconst 0, 1) := by decide +kernel
theorem dX9_readItem_83 : decode cX9_readItem 83 = .ok (.istore_n 3, 1) := by decide +kernel
theorem dX9_readItem_84 : decode cX9_readItem 84 = .ok (.iload_n 3, 1) := by decide +kernel
theorem dX9_readItem_85 : decode cX9_readItem 85 = .ok (.bipush 12, 2) := by decide +kernel
theorem dX9_readItem_87 : decode cX9_readItem 87 = .ok (.if_icmp .ge 43, 3) := by decide +kernel
theorem dX9_readItem_90 : decode cX9_readItem 90 = .ok (.aload_n 0, 1) := by decide +kernel
theorem dX9_readItem_91 : decode cX9_readItem 91 = .ok (.getfield 10, 3) := by decide +kernel
theorem dX9_readItem_94 : decode cX9_readItem 94 = .ok (.iload_n 1, 1) := by decide +kernel
theorem dX9_readItem_95 : decode cX9_readItem 95 = .ok (.iconst 3, 1) := by decide +kernel
theorem dX9_readItem_96 : decode cX9_readItem 96 = .ok (.iadd, 1) := by decide +kernel
theorem dX9_readItem_97 : decode cX9_readItem 97 = .ok (.iload_n 3, 1) := by decide +kernel
theorem dX9_readItem_98 : decode cX9_readItem 98 = .ok (.iadd, 1) := by decide +kernel
theorem dX9_readItem_99 : decode cX9_readItem 99 = .ok (.invokevirtual 159, 3) := by decide +kernel
theorem dX9_readItem_102 : decode cX9_readItem 102 = .ok (.invokestatic 173, 3) := by decide +kernel
theorem dX9_readItem_105 : decode cX9_readItem 105 = .ok (.ifCond .eq 25, 3) := by decide +kernel
theorem dX9_readItem_108 : decode cX9_readItem 108 = .ok (.aload_n 2, 1) := by decide +kernel
theorem dX9_readItem_109 : decode cX9_readItem 109 = .ok (.aload_n 0, 1) := by decide +kernel
theorem dX9_readItem_110 : decode cX9_readItem 110 = .ok (.getfield 10, 3) := by decide +kernel
theorem dX9_readItem_113 : decode cX9_readItem 113 = .ok (.iload_n 1, 1) := by decide +kernel
theorem dX9_readItem_114 : decode cX9_readItem 114 = .ok (.iconst 3, 1) := by decide +kernel
theorem dX9_readItem_115 : decode cX9_readItem 115 = .ok (.iadd, 1) := by decide +kernel
theorem dX9_readItem_116 : decode cX9_readItem 116 = .ok (.iload_n 3, 1) := by decide +kernel
theorem dX9_readItem_117 : decode cX9_readItem 117 = .ok (.iadd, 1) := by decide +kernel
theorem dX9_readItem_118 : decode cX9_readItem 118 = .ok (.invokevirtual 159, 3) := by decide +kernel
theorem dX9_readItem_121 : decode cX9_readItem 121 = .ok (.invokevirtual 176, 3) := by decide +kernel
theorem dX9_readItem_124 : decode cX9_readItem 124 = .ok (.iinc 3 1, 3) := by decide +kernel
theorem dX9_readItem_127 : decode cX9_readItem 127 = .ok (.goto (-43), 3) := by decide +kernel
theorem dX9_readItem_130 : decode cX9_readItem 130 = .ok (.return_, 1) := by decide +kernel
theorem dX9_type_0 : decode cX9_type 0 = .ok (.iload_n 1, 1) := by decide +kernel
theorem dX9_type_1 : decode cX9_type 1 = .ok (.invokestatic 179, 3) := by decide +kernel
theorem dX9_type_4 : decode cX9_type 4 = .ok (.ifCond .ne 5, 3) := by decide +kernel
theorem dX9_type_7 : decode cX9_type 7 = .ok (.iconst (-1), 1) := by decide +kernel
theorem dX9_type_8 : decode cX9_type 8 = .ok (.ireturn, 1) := by decide +kernel
theorem dX9_type_9 : decode cX9_type 9 = .ok (.aload_n 0, 1) := by decide +kernel
theorem dX9_type_10 : decode cX9_type 10 = .ok (.getfield 33, 3) := by decide +kernel
theorem dX9_type_13 : decode cX9_type 13 = .ok (.getfield 182, 3) := by decide +kernel
theorem dX9_type_16 : decode cX9_type 16 = .ok (.bipush 6, 2) := by decide +kernel
theorem dX9_type_18 : decode cX9_type 18 = .ok (.if_icmp .lt 6, 3) := by decide +kernel
theorem dX9_type_21 : decode cX9_type 21 = .ok (.bipush (-3), 2) := by decide +kernel
theorem dX9_type_23 : decode cX9_type 23 = .ok (.ireturn, 1) := by decide +kernel
theorem dX9_type_24 : decode cX9_type 24 = .ok (.aload_n 0, 1) := by decide +kernel
theorem dX9_type_25 : decode cX9_type 25 = .ok (.getfield 33, 3) := by decide +kernel
theorem dX9_type_28 : decode cX9_type 28 = .ok (.iload_n 1, 1) := by decide +kernel
theorem dX9_type_29 : decode cX9_type 29 = .ok (.i2c, 1) := by decide +kernel
theorem dX9_type_30 : decode cX9_type 30 = .ok (.invokevirtual 183, 3) := by decide +kernel
theorem dX9_type_33 : decode cX9_type 33 = .ok (.aload_n 0, 1) := by decide +kernel
theorem dX9_type_34 : decode cX9_type 34 = .ok (.getfield 33, 3) := by decide +kernel
theorem dX9_type_37 : decode cX9_type 37 = .ok (.getfield 182, 3) := by decide +kernel
theorem dX9_type_40 : decode cX9_type 40 = .ok (.ireturn, 1) := by decide +kernel
theorem dX9_untype_0 : decode cX9_untype 0 = .ok (.aload_n 0, 1) := by decide +kernel
theorem dX9_untype_1 : decode cX9_untype 1 = .ok (.getfield 33, 3) := by decide +kernel
theorem dX9_untype_4 : decode cX9_untype 4 = .ok (.invokevirtual 186, 3) := by decide +kernel
theorem dX9_untype_7 : decode cX9_untype 7 = .ok (.ireturn, 1) := by decide +kernel
theorem dX9_word_0 : decode cX9_word 0 = .ok (.iload_n 1, 1) := by decide +kernel
theorem dX9_word_1 : decode cX9_word 1 = .ok (.iconst (-1), 1) := by decide +kernel
theorem dX9_word_2 : decode cX9_word 2 = .ok (.if_icmp .ge 5, 3) := by decide +kernel
theorem dX9_word_5 : decode cX9_word 5 = .ok (.iconst (-1), 1) := by decide +kernel
theorem dX9_word_6 : decode cX9_word 6 = .ok (.ireturn, 1) := by decide +kernel
theorem dX9_word_7 : decode cX9_word 7 = .ok (.iload_n 1, 1) := by decide +kernel
theorem dX9_word_8 : decode cX9_word 8 = .ok (.iconst (-1), 1) := by decide +kernel
theorem dX9_word_9 : decode cX9_word 9 = .ok (.if_icmp .ne 11, 3) := by decide +kernel
theorem dX9_word_12 : decode cX9_word 12 = .ok (.aload_n 0, 1) := by decide +kernel
theorem dX9_word_13 : decode cX9_word 13 = .ok (.getfield 33, 3) := by decide +kernel
theorem dX9_word_16 : decode cX9_word 16 = .ok (.getfield 182, 3) := by decide +kernel
theorem dX9_word_19 : decode cX9_word 19 = .ok (.ireturn, 1) := by decide +kernel
theorem dX9_word_20 : decode cX9_word 20 = .ok (.iload_n 1, 1) := by decide +kernel
theorem dX9_word_21 : decode cX9_word 21 = .ok (.aload_n 0, 1) := by decide +kernel
theorem dX9_word_22 : decode cX9_word 22 = .ok (.getfield 33, 3) := by decide +kernel
theorem dX9_word_25 : decode cX9_word 25 = .ok (.getfield 182, 3) := by decide +kernel
theorem dX9_word_28 : decode cX9_word 28 = .ok (.if_icmp .ge 15, 3) := by decide +kernel
theorem dX9_word_31 : decode cX9_word 31 = .ok (.aload_n 0, 1) := by decide +kernel
theorem dX9_word_32 : decode cX9_word 32 = .ok (.getfield 33, 3) := by decide +kernel
theorem dX9_word_35 : decode cX9_word 35 = .ok (.getfield 190, 3) := by decide +kernel
theorem dX9_word_38 : decode cX9_word 38 = .ok (.iload_n 1, 1) := by decide +kernel
theorem dX9_word_39 : decode cX9_word 39 = .ok (.caload, 1) := by decide +kernel
theorem dX9_word_40 : decode cX9_word 40 = .ok (.goto 5, 3) := by decide +kernel
theorem dX9_word_43 : decode cX9_word 43 = .ok (.bipush (-4), 2) := by decide +kernel
theorem dX9_word_45 : decode cX9_word 45 = .ok (.ireturn, 1) := by decide +kernel
theorem dX9_pick_0 : decode cX9_pick 0 = .ok (.aload_n 0, 1) := by decide +kernel
theorem dX9_pick_1 : decode cX9_pick 1 = .ok (.getfield 19, 3) := by decide +kernel
theorem dX9_pick_4 : decode cX9_pick 4 = .ok (.iload_n 1, 1) := by decide +kernel
theorem dX9_pick_5 : decode cX9_pick 5 = .ok (.invokevirtual 118, 3) := by decide +kernel
theorem dX9_pick_8 : decode cX9_pick 8 = .ok (.ifCond .ne 5, 3) := by decide +kernel
theorem dX9_pick_11 : decode cX9_pick 11 = .ok (.iconst (-1), 1) := by decide +kernel
theorem dX9_pick_12 : decode cX9_pick 12 = .ok (.ireturn, 1) := by decide +kernel
theorem dX9_pick_13 : decode cX9_pick 13 = .ok (.aload_n 0, 1) := by decide +kernel
theorem dX9_pick_14 : decode cX9_pick 14 = .ok (.dup, 1) := by decide +kernel
theorem dX9_pick_15 : decode cX9_pick 15 = .ok (.getfield 76, 3) := by decide +kernel
theorem dX9_pick_18 : decode cX9_pick 18 = .ok (.iconst 1, 1) := by decide +kernel
theorem dX9_pick_19 : decode cX9_pick 19 = .ok (.iadd, 1) := by decide +kernel
theorem dX9_pick_20 : decode cX9_pick 20 = .ok (.putfield 76, 3) := by decide +kernel
theorem dX9_pick_23 : decode cX9_pick 23 = .ok (.aload_n 0, 1) := by decide +kernel
theorem dX9_pick_24 : decode cX9_pick 24 = .ok (.getfield 19, 3) := by decide +kernel
theorem dX9_pick_27 : decode cX9_pick 27 = .ok (.getfield 122, 3) := by decide +kernel
theorem dX9_pick_30 : decode cX9_pick 30 = .ok (.iload_n 1, 1) := by decide +kernel
theorem dX9_pick_31 : decode cX9_pick 31 = .ok (.aaload, 1) := by decide +kernel
theorem dX9_pick_32 : decode cX9_pick 32 = .ok (.aload_n 0, 1) := by decide +kernel
theorem dX9_pick_33 : decode cX9_pick 33 = .ok (.getfield 76, 3) := by decide +kernel
theorem dX9_pick_36 : decode cX9_pick 36 = .ok (.putfield 135, 3) := by decide +kernel
theorem dX9_pick_39 : decode cX9_pick 39 = .ok (.aload_n 0, 1) := by decide +kernel
theorem dX9_pick_40 : decode cX9_pick 40 = .ok (.getfield 76, 3) := by decide +kernel
theorem dX9_pick_43 : decode cX9_pick 43 = .ok (.ireturn, 1) := by decide +kernel
theorem dX9_score_0 : decode cX9_score 0 = .ok (.aload_n 0, 1) := by decide +kernel
theorem dX9_score_1 : decode cX9_score 1 = .ok (.getfield 19, 3) := by decide +kernel
theorem dX9_score_4 : decode cX9_score 4 = .ok (.iload_n 1, 1) := by decide +kernel
theorem dX9_score_5 : decode cX9_score 5 = .ok (.invokevirtual 118, 3) := by decide +kernel
theorem dX9_score_8 : decode cX9_score 8 = .ok (.ifCond .eq 19, 3) := by decide +kernel
theorem dX9_score_11 : decode cX9_score 11 = .ok (.aload_n 0, 1) := by decide +kernel
theorem dX9_score_12 : decode cX9_score 12 = .ok (.aload_n 0, 1) := by decide +kernel
theorem dX9_score_13 : decode cX9_score 13 = .ok (.getfield 19, 3) := by decide +kernel
theorem dX9_score_16 : decode cX9_score 16 = .ok (.getfield 122, 3) := by decide +kernel
theorem dX9_score_19 : decode cX9_score 19 = .ok (.iload_n 1, 1) := by decide +kernel
theorem dX9_score_20 : decode cX9_score 20 = .ok (.aaload, 1) := by decide +kernel
theorem dX9_score_21 : decode cX9_score 21 = .ok (.invokevirtual 203, 3) := by decide +kernel
theorem dX9_score_24 : decode cX9_score 24 = .ok (.goto 4, 3) := by decide +kernel
theorem dX9_score_27 : decode cX9_score 27 = .ok (.iconst (-1), 1) := by decide +kernel
theorem dX9_score_28 : decode cX9_score 28 = .ok (.ireturn, 1) := by decide +kernel
theorem dX9_list_0 : decode cX9_list 0 = .ok (.iload_n 1, 1) := by decide +kernel
theorem dX9_list_1 : decode cX9_list 1 = .ok (.iconst (-1), 1) := by decide +kernel
theorem dX9_list_2 : decode cX9_list 2 = .ok (.if_icmp .ge 5, 3) := by decide +kernel
theorem dX9_list_5 : decode cX9_list 5 = .ok (.iconst (-1), 1) := by decide +kernel
theorem dX9_list_6 : decode cX9_list 6 = .ok (.ireturn, 1) := by decide +kernel
theorem dX9_list_7 : decode cX9_list 7 = .ok (.aload_n 0, 1) := by decide +kernel
theorem dX9_list_8 : decode cX9_list 8 = .ok (.invokevirtual 207, 3) := by decide +kernel
theorem dX9_list_11 : decode cX9_list 11 = .ok (.aload_n 0, 1) := by decide +kernel
theorem dX9_list_12 : decode cX9_list 12 = .ok (.getfield 68, 3) := by decide +kernel
theorem dX9_list_15 : decode cX9_list 15 = .ok (.aload_n 0, 1) := by decide +kernel
theorem dX9_list_16 : decode cX9_list 16 = .ok (.getfield 19, 3) := by decide +kernel
theorem dX9_list_19 : decode cX9_list 19 = .ok (.invokevirtual 210, 3) := by decide +kernel
theorem dX9_list_22 : decode cX9_list 22 = .ok (.iload_n 1, 1) := by decide +kernel
theorem dX9_list_23 : decode cX9_list 23 = .ok (.iconst (-1), 1) := by decide +kernel
theorem dX9_list_24 : decode cX9_list 24 = .ok (.if_icmp .ne 25, 3) := by decide +kernel
theorem dX9_list_27 : decode cX9_list 27 = .ok (.aload_n 0, 1) := by decide +kernel
theorem dX9_list_28 : decode cX9_list 28 = .ok (.getfield 61, 3) := by decide +kernel
theorem dX9_list_31 : decode cX9_list 31 = .ok (.aload_n 0, 1) := by decide +kernel
theorem dX9_list_32 : decode cX9_list 32 = .ok (.getfield 33, 3) := by decide +kernel
theorem dX9_list_35 : decode cX9_list 35 = .ok (.invokevirtual 214, 3) := by decide +kernel
theorem dX9_list_38 : decode cX9_list 38 = .ok (.invokevirtual 218, 3) := by decide +kernel
theorem dX9_list_41 : decode cX9_list 41 = .ok (.aload_n 0, 1) := by decide +kernel
theorem dX9_list_42 : decode cX9_list 42 = .ok (.getfield 68, 3) := by decide +kernel
theorem dX9_list_45 : decode cX9_list 45 = .ok (.getfield 221, 3) := by decide +kernel
theorem dX9_list_48 : decode cX9_list 48 = .ok (.ireturn, 1) := by decide +kernel
theorem dX9_list_49 : decode cX9_list 49 = .ok (.iload_n 1, 1) := by decide +kernel
theorem dX9_list_50 : decode cX9_list 50 = .ok (.aload_n 0, 1) := by decide +kernel
theorem dX9_list_51 : decode cX9_list 51 = .ok (.getfield 68, 3) := by decide +kernel
theorem dX9_list_54 : decode cX9_list 54 = .ok (.getfield 221, 3) := by decide +kernel
theorem dX9_list_57 : decode cX9_list 57 = .ok (.if_icmp .ge 15, 3) := by decide +kernel
theorem dX9_list_60 : decode cX9_list 60 = .ok (.aload_n 0, 1) := by decide +kernel
theorem dX9_list_61 : decode cX9_list 61 = .ok (.getfield 68, 3) := by decide +kernel
theorem dX9_list_64 : decode cX9_list 64 = .ok (.getfield 222, 3) := by decide +kernel
theorem dX9_list_67 : decode cX9_list 67 = .ok (.iload_n 1, 1) := by decide +kernel
theorem dX9_list_68 : decode cX9_list 68 = .ok (.iaload, 1) := by decide +kernel
theorem dX9_list_69 : decode cX9_list 69 = .ok (.goto 5, 3) := by decide +kernel
theorem dX9_list_72 : decode cX9_list 72 = .ok (.bipush (-4), 2) := by decide +kernel
theorem dX9_list_74 : decode cX9_list 74 = .ok (.ireturn, 1) := by decide +kernel
theorem dX9_best_0 : decode cX9_best 0 = .ok (.aload_n 0, 1) := by decide +kernel
theorem dX9_best_1 : decode cX9_best 1 = .ok (.getfield 19, 3) := by decide +kernel
theorem dX9_best_4 : decode cX9_best 4 = .ok (.iload_n 1, 1) := by decide +kernel
theorem dX9_best_5 : decode cX9_best 5 = .ok (.invokevirtual 118, 3) := by decide +kernel
theorem dX9_best_8 : decode cX9_best 8 = .ok (.ifCond .eq 7, 3) := by decide +kernel
theorem dX9_best_11 : decode cX9_best 11 = .ok (.iload_n 2, 1) := by decide +kernel
theorem dX9_best_12 : decode cX9_best 12 = .ok (.ifCond .ge 5, 3) := by decide +kernel
theorem dX9_best_15 : decode cX9_best 15 = .ok (.iconst (-1), 1) := by decide +kernel
theorem dX9_best_16 : decode cX9_best 16 = .ok (.ireturn, 1) := by decide +kernel
theorem dX9_best_17 : decode cX9_best 17 = .ok (.iload_n 2, 1) := by decide +kernel
theorem dX9_best_18 : decode cX9_best 18 = .ok (.aload_n 0, 1) := by decide +kernel
theorem dX9_best_19 : decode cX9_best 19 = .ok (.getfield 33, 3) := by decide +kernel
theorem dX9_best_22 : decode cX9_best 22 = .ok (.getfield 182, 3) := by decide +kernel
theorem dX9_best_25 : decode cX9_best 25 = .ok (.if_icmp .ge 32, 3) := by decide +kernel
theorem dX9_best_28 : decode cX9_best 28 = .ok (.aload_n 0, 1) := by decide +kernel
theorem dX9_best_29 : decode cX9_best 29 = .ok (.getfield 47, 3) := by decide +kernel
theorem dX9_best_32 : decode cX9_best 32 = .ok (.aload_n 0, 1) := by decide +kernel
theorem dX9_best_33 : decode cX9_best 33 = .ok (.getfield 19, 3) := by decide +kernel
theorem dX9_best_36 : decode cX9_best 36 = .ok (.getfield 122, 3) := by decide +kernel
theorem dX9_best_39 : decode cX9_best 39 = .ok (.iload_n 1, 1) := by decide +kernel
theorem dX9_best_40 : decode cX9_best 40 = .ok (.aaload, 1) := by decide +kernel
theorem dX9_best_41 : decode cX9_best 41 = .ok (.aload_n 0, 1) := by decide +kernel
theorem dX9_best_42 : decode cX9_best 42 = .ok (.getfield 33, 3) := by decide +kernel
theorem dX9_best_45 : decode cX9_best 45 = .ok (.aload_n 0, 1) := by decide +kernel
theorem dX9_best_46 : decode cX9_best 46 = .ok (.getfield 26, 3) := by decide +kernel
theorem dX9_best_49 : decode cX9_best 49 = .ok (.invokevirtual 226, 3) := by decide +kernel
theorem dX9_best_52 : decode cX9_best 52 = .ok (.bipush (-4), 2) := by decide +kernel
theorem dX9_best_54 : decode cX9_best 54 = .ok (.if_icmp .ne 6, 3) := by decide +kernel
theorem dX9_best_57 : decode cX9_best 57 = .ok (.bipush (-4), 2) := by decide +kernel
theorem dX9_best_59 : decode cX9_best 59 = .ok (.ireturn, 1) := by decide +kernel
theorem dX9_best_60 : decode cX9_best 60 = .ok (.aload_n 0, 1) := by decide +kernel
theorem dX9_best_61 : decode cX9_best 61 = .ok (.getfield 47, 3) := by decide +kernel
theorem dX9_best_64 : decode cX9_best 64 = .ok (.iload_n 2, 1) := by decide +kernel
theorem dX9_best_65 : decode cX9_best 65 = .ok (.invokevirtual 230, 3) := by decide +kernel
theorem dX9_best_68 : decode cX9_best 68 = .ok (.ireturn, 1) := by decide +kernel
theorem dX9_ways_0 : decode cX9_ways 0 = .ok (.aload_n 0, 1) := by decide +kernel
theorem dX9_ways_1 : decode cX9_ways 1 = .ok (.getfield 19, 3) := by decide +kernel
theorem dX9_ways_4 : decode cX9_ways 4 = .ok (.iload_n 1, 1) := by decide +kernel
theorem dX9_ways_5 : decode cX9_ways 5 = .ok (.invokevirtual 118, 3) := by decide +kernel
theorem dX9_ways_8 : decode cX9_ways 8 = .ok (.ifCond .eq 26, 3) := by decide +kernel
theorem dX9_ways_11 : decode cX9_ways 11 = .ok (.aload_n 0, 1) := by decide +kernel
theorem dX9_ways_12 : decode cX9_ways 12 = .ok (.getfield 47, 3) := by decide +kernel
theorem dX9_ways_15 : decode cX9_ways 15 = .ok (.aload_n 0, 1) := by decide +kernel
theorem dX9_ways_16 : decode cX9_ways 16 = .ok (.getfield 19, 3) := by decide +kernel
theorem dX9_ways_19 : decode cX9_ways 19 = .ok (.getfield 122, 3) := by decide +kernel
theorem dX9_ways_22 : decode cX9_ways 22 = .ok (.iload_n 1, 1) := by decide +kernel
theorem dX9_ways_23 : decode cX9_ways 23 = .ok (.aaload, 1) := by decide +kernel
theorem dX9_ways_24 : decode cX9_ways 24 = .ok (.aload_n 0, 1) := by decide +kernel
theorem dX9_ways_25 : decode cX9_ways 25 = .ok (.getfield 33, 3) := by decide +kernel
theorem dX9_ways_28 : decode cX9_ways 28 = .ok (.invokevirtual 233, 3) := by decide +kernel
theorem dX9_ways_31 : decode cX9_ways 31 = .ok (.goto 4, 3) := by decide +kernel
theorem dX9_ways_34 : decode cX9_ways 34 = .ok (.iconst (-1), 1) := by decide +kernel
theorem dX9_ways_35 : decode cX9_ways 35 = .ok (.ireturn, 1) := by decide +kernel
theorem dX9_passes_0 : decode cX9_passes 0 = .ok (.iload_n 1, 1) := by decide +kernel
theorem dX9_passes_1 : decode cX9_passes 1 = .ok (.ifCond .eq 10, 3) := by decide +kernel
theorem dX9_passes_4 : decode cX9_passes 4 = .ok (.iload_n 1, 1) := by decide +kernel
theorem dX9_passes_5 : decode cX9_passes 5 = .ok (.iconst 1, 1) := by decide +kernel
theorem dX9_passes_6 : decode cX9_passes 6 = .ok (.if_icmp .eq 5, 3) := by decide +kernel
theorem dX9_passes_9 : decode cX9_passes 9 = .ok (.iconst (-1), 1) := by decide +kernel
theorem dX9_passes_10 : decode cX9_passes 10 = .ok (.ireturn, 1) := by decide +kernel
theorem dX9_passes_11 : decode cX9_passes 11 = .ok (.iconst 0, 1) := by decide +kernel
theorem dX9_passes_12 : decode cX9_passes 12 = .ok (.istore_n 2, 1) := by decide +kernel
theorem dX9_passes_13 : decode cX9_passes 13 = .ok (.iconst 0, 1) := by decide +kernel
theorem dX9_passes_14 : decode cX9_passes 14 = .ok (.istore_n 3, 1) := by decide +kernel
theorem dX9_passes_15 : decode cX9_passes 15 = .ok (.iload_n 3, 1) := by decide +kernel
theorem dX9_passes_16 : decode cX9_passes 16 = .ok (.aload_n 0, 1) := by decide +kernel
theorem dX9_passes_17 : decode cX9_passes 17 = .ok (.getfield 19, 3) := by decide +kernel
theorem dX9_passes_20 : decode cX9_passes 20 = .ok (.getfield 117, 3) := by decide +kernel
theorem dX9_passes_23 : decode cX9_passes 23 = .ok (.if_icmp .ge 61, 3) := by decide +kernel
theorem dX9_passes_26 : decode cX9_passes 26 = .ok (.aload_n 0, 1) := by decide +kernel
theorem dX9_passes_27 : decode cX9_passes 27 = .ok (.getfield 19, 3) := by decide +kernel
theorem dX9_passes_30 : decode cX9_passes 30 = .ok (.getfield 122, 3) := by decide +kernel
theorem dX9_passes_33 : decode cX9_passes 33 = .ok (.iload_n 3, 1) := by decide +kernel
theorem dX9_passes_34 : decode cX9_passes 34 = .ok (.aaload, 1) := by decide +kernel
theorem dX9_passes_35 : decode cX9_passes 35 = .ok (.astore 4, 2) := by decide +kernel
theorem dX9_passes_37 : decode cX9_passes 37 = .ok (.iload_n 1, 1) := by decide +kernel
theorem dX9_passes_38 : decode cX9_passes 38 = .ok (.ifCond .ne 18, 3) := by decide +kernel
theorem dX9_passes_41 : decode cX9_passes 41 = .ok (.aload 4, 2) := by decide +kernel
theorem dX9_passes_43 : decode cX9_passes 43 = .ok (.aload_n 0, 1) := by decide +kernel
theorem dX9_passes_44 : decode cX9_passes 44 = .ok (.getfield 33, 3) := by decide +kernel
theorem dX9_passes_47 : decode cX9_passes 47 = .ok (.invokevirtual 237, 3) := by decide +kernel
theorem dX9_passes_50 : decode cX9_passes 50 = .ok (.ifCond .eq 28, 3) := by decide +kernel
theorem dX9_passes_53 : decode cX9_passes 53 = .ok (.goto 19, 3) := by decide +kernel
theorem dX9_passes_56 : decode cX9_passes 56 = .ok (.aload_n 0, 1) := by decide +kernel
theorem dX9_passes_57 : decode cX9_passes 57 = .ok (.getfield 47, 3) := by decide +kernel
theorem dX9_passes_60 : decode cX9_passes 60 = .ok (.aload 4, 2) := by decide +kernel
theorem dX9_passes_62 : decode cX9_passes 62 = .ok (.aload_n 0, 1) := by decide +kernel
theorem dX9_passes_63 : decode cX9_passes 63 = .ok (.getfield 33, 3) := by decide +kernel
theorem dX9_passes_66 : decode cX9_passes 66 = .ok (.invokevirtual 233, 3) := by decide +kernel
theorem dX9_passes_69 : decode cX9_passes 69 = .ok (.ifCond .le 9, 3) := by decide +kernel
theorem dX9_passes_72 : decode cX9_passes 72 = .ok (.iload_n 2, 1) := by decide +kernel
theorem dX9_passes_73 : decode cX9_passes 73 = .ok (.iconst 1, 1) := by decide +kernel
theorem dX9_passes_74 : decode cX9_passes 74 = .ok (.iload_n 3, 1) := by decide +kernel
theorem dX9_passes_75 : decode cX9_passes 75 = .ok (.ishl, 1) := by decide +kernel
theorem dX9_passes_76 : decode cX9_passes 76 = .ok (.ior, 1) := by decide +kernel
theorem dX9_passes_77 : decode cX9_passes 77 = .ok (.istore_n 2, 1) := by decide +kernel
theorem dX9_passes_78 : decode cX9_passes 78 = .ok (.iinc 3 1, 3) := by decide +kernel
theorem dX9_passes_81 : decode cX9_passes 81 = .ok (.goto (-66), 3) := by decide +kernel
theorem dX9_passes_84 : decode cX9_passes 84 = .ok (.iload_n 2, 1) := by decide +kernel
theorem dX9_passes_85 : decode cX9_passes 85 = .ok (.ireturn, 1) := by decide +kernel
theorem dX9_asked_0 : decode cX9_asked 0 = .ok (.iload_n 1, 1) := by decide +kernel
theorem dX9_asked_1 : decode cX9_asked 1 = .ok (.ifCond .lt 9, 3) := by decide +kernel
theorem dX9_asked_4 : decode cX9_asked 4 = .ok (.iload_n 1, 1) := by decide +kernel
theorem dX9_asked_5 : decode cX9_asked 5 = .ok (.bipush 6, 2) := by decide +kernel
theorem dX9_asked_7 : decode cX9_asked 7 = .ok (.if_icmp .lt 5, 3) := by decide +kernel
theorem dX9_asked_10 : decode cX9_asked 10 = .ok (.iconst (-1), 1) := by decide +kernel
theorem dX9_asked_11 : decode cX9_asked 11 = .ok (.ireturn, 1) := by decide +kernel
theorem dX9_asked_12 : decode cX9_asked 12 = .ok (.iload_n 1, 1) := by decide +kernel
theorem dX9_asked_13 : decode cX9_asked 13 = .ok (.aload_n 0, 1) := by decide +kernel
theorem dX9_asked_14 : decode cX9_asked 14 = .ok (.getfield 61, 3) := by decide +kernel
theorem dX9_asked_17 : decode cX9_asked 17 = .ok (.getfield 241, 3) := by decide +kernel
theorem dX9_asked_20 : decode cX9_asked 20 = .ok (.if_icmp .ge 20, 3) := by decide +kernel
theorem dX9_asked_23 : decode cX9_asked 23 = .ok (.aload_n 0, 1) := by decide +kernel
theorem dX9_asked_24 : decode cX9_asked 24 = .ok (.getfield 61, 3) := by decide +kernel
theorem dX9_asked_27 : decode cX9_asked 27 = .ok (.getfield 242, 3) := by decide +kernel
theorem dX9_asked_30 : decode cX9_asked 30 = .ok (.iload_n 1, 1) := by decide +kernel
theorem dX9_asked_31 : decode cX9_asked 31 = .ok (.laload, 1) := by decide +kernel
theorem dX9_asked_32 : decode cX9_asked 32 = .ok (.ldc2_w 246, 3) := by decide +kernel
theorem dX9_asked_35 : decode cX9_asked 35 = .ok (.lrem, 1) := by decide +kernel
theorem dX9_asked_36 : decode cX9_asked 36 = .ok (.l2i, 1) := by decide +kernel
theorem dX9_asked_37 : decode cX9_asked 37 = .ok (.goto 5, 3) := by decide +kernel
theorem dX9_asked_40 : decode cX9_asked 40 = .ok (.bipush (-4), 2) := by decide +kernel
theorem dX9_asked_42 : decode cX9_asked 42 = .ok (.ireturn, 1) := by decide +kernel
theorem dX9_brief_0 : decode cX9_brief 0 = .ok (.aload_n 0, 1) := by decide +kernel
theorem dX9_brief_1 : decode cX9_brief 1 = .ok (.getfield 19, 3) := by decide +kernel
theorem dX9_brief_4 : decode cX9_brief 4 = .ok (.iload_n 1, 1) := by decide +kernel
theorem dX9_brief_5 : decode cX9_brief 5 = .ok (.invokevirtual 118, 3) := by decide +kernel
theorem dX9_brief_8 : decode cX9_brief 8 = .ok (.ifCond .ne 5, 3) := by decide +kernel
theorem dX9_brief_11 : decode cX9_brief 11 = .ok (.iconst (-1), 1) := by decide +kernel
theorem dX9_brief_12 : decode cX9_brief 12 = .ok (.ireturn, 1) := by decide +kernel
theorem dX9_brief_13 : decode cX9_brief 13 = .ok (.iconst 1, 1) := by decide +kernel
theorem dX9_brief_14 : decode cX9_brief 14 = .ok (.istore_n 2, 1) := by decide +kernel
theorem dX9_brief_15 : decode cX9_brief 15 = .ok (.iload_n 2, 1) := by decide +kernel
theorem dX9_brief_16 : decode cX9_brief 16 = .ok (.bipush 26, 2) := by decide +kernel
theorem dX9_brief_18 : decode cX9_brief 18 = .ok (.if_icmp .gt 24, 3) := by decide +kernel
theorem dX9_brief_21 : decode cX9_brief 21 = .ok (.aload_n 0, 1) := by decide +kernel
theorem dX9_brief_22 : decode cX9_brief 22 = .ok (.iload_n 1, 1) := by decide +kernel
theorem dX9_brief_23 : decode cX9_brief 23 = .ok (.iload_n 2, 1) := by decide +kernel
theorem dX9_brief_24 : decode cX9_brief 24 = .ok (.iconst 0, 1) := by decide +kernel
theorem dX9_brief_25 : decode cX9_brief 25 = .ok (.invokevirtual 248, 3) := by decide +kernel
theorem dX9_brief_28 : decode cX9_brief 28 = .ok (.ifCond .eq 8, 3) := by decide +kernel
theorem dX9_brief_31 : decode cX9_brief 31 = .ok (.bipush 27, 2) := by decide +kernel
theorem dX9_brief_33 : decode cX9_brief 33 = .ok (.iload_n 2, 1) := by decide +kernel
theorem dX9_brief_34 : decode cX9_brief 34 = .ok (.imul, 1) := by decide +kernel
theorem dX9_brief_35 : decode cX9_brief 35 = .ok (.ireturn, 1) := by decide +kernel
theorem dX9_brief_36 : decode cX9_brief 36 = .ok (.iinc 2 1, 3) := by decide +kernel
theorem dX9_brief_39 : decode cX9_brief 39 = .ok (.goto (-24), 3) := by decide +kernel
theorem dX9_brief_42 : decode cX9_brief 42 = .ok (.iconst 1, 1) := by decide +kernel
theorem dX9_brief_43 : decode cX9_brief 43 = .ok (.istore_n 2, 1) := by decide +kernel
theorem dX9_brief_44 : decode cX9_brief 44 = .ok (.iload_n 2, 1) := by decide +kernel
theorem dX9_brief_45 : decode cX9_brief 45 = .ok (.bipush 26, 2) := by decide +kernel
theorem dX9_brief_47 : decode cX9_brief 47 = .ok (.if_icmp .gt 40, 3) := by decide +kernel
theorem dX9_brief_50 : decode cX9_brief 50 = .ok (.iconst 1, 1) := by decide +kernel
theorem dX9_brief_51 : decode cX9_brief 51 = .ok (.istore_n 3, 1) := by decide +kernel
theorem dX9_brief_52 : decode cX9_brief 52 = .ok (.iload_n 3, 1) := by decide +kernel
theorem dX9_brief_53 : decode cX9_brief 53 = .ok (.bipush 26, 2) := by decide +kernel
theorem dX9_brief_55 : decode cX9_brief 55 = .ok (.if_icmp .gt 26, 3) := by decide +kernel
theorem dX9_brief_58 : decode cX9_brief 58 = .ok (.aload_n 0, 1) := by decide +kernel
theorem dX9_brief_59 : decode cX9_brief 59 = .ok (.iload_n 1, 1) := by decide +kernel
theorem dX9_brief_60 : decode cX9_brief 60 = .ok (.iload_n 2, 1) := by decide +kernel
theorem dX9_brief_61 : decode cX9_brief 61 = .ok (.iload_n 3, 1) := by decide +kernel
theorem dX9_brief_62 : decode cX9_brief 62 = .ok (.invokevirtual 248, 3) := by decide +kernel
theorem dX9_brief_65 : decode cX9_brief 65 = .ok (.ifCond .eq 10, 3) := by decide +kernel
theorem dX9_brief_68 : decode cX9_brief 68 = .ok (.bipush 27, 2) := by decide +kernel
theorem dX9_brief_70 : decode cX9_brief 70 = .ok (.iload_n 2, 1) := by decide +kernel
theorem dX9_brief_71 : decode cX9_brief 71 = .ok (.imul, 1) := by decide +kernel
theorem dX9_brief_72 : decode cX9_brief 72 = .ok (.iload_n 3, 1) := by decide +kernel
theorem dX9_brief_73 : decode cX9_brief 73 = .ok (.iadd, 1) := by decide +kernel
theorem dX9_brief_74 : decode cX9_brief 74 = .ok (.ireturn, 1) := by decide +kernel
theorem dX9_brief_75 : decode cX9_brief 75 = .ok (.iinc 3 1, 3) := by decide +kernel
theorem dX9_brief_78 : decode cX9_brief 78 = .ok (.goto (-26), 3) := by decide +kernel
theorem dX9_brief_81 : decode cX9_brief 81 = .ok (.iinc 2 1, 3) := by decide +kernel
theorem dX9_brief_84 : decode cX9_brief 84 = .ok (.goto (-40), 3) := by decide +kernel
theorem dX9_brief_87 : decode cX9_brief 87 = .ok (.bipush (-4), 2) := by decide +kernel
theorem dX9_brief_89 : decode cX9_brief 89 = .ok (.ireturn, 1) := by decide +kernel
theorem dX9_seekScore_0 : decode cX9_seekScore 0 = .ok (.aload_n 0, 1) := by decide +kernel
theorem dX9_seekScore_1 : decode cX9_seekScore 1 = .ok (.getfield 33, 3) := by decide +kernel
theorem dX9_seekScore_4 : decode cX9_seekScore 4 = .ok (.invokevirtual 214, 3) := by decide +kernel
theorem dX9_seekScore_7 : decode cX9_seekScore 7 = .ok (.lstore_n 2, 1) := by decide +kernel
theorem dX9_seekScore_8 : decode cX9_seekScore 8 = .ok (.aload_n 1, 1) := by decide +kernel
theorem dX9_seekScore_9 : decode cX9_seekScore 9 = .ok (.getfield 132, 3) := by decide +kernel
theorem dX9_seekScore_12 : decode cX9_seekScore 12 = .ok (.lload_n 2, 1) := by decide +kernel
theorem dX9_seekScore_13 : decode cX9_seekScore 13 = .ok (.aload_n 0, 1) := by decide +kernel
theorem dX9_seekScore_14 : decode cX9_seekScore 14 = .ok (.getfield 79, 3) := by decide +kernel
theorem dX9_seekScore_17 : decode cX9_seekScore 17 = .ok (.invokestatic 259, 3) := by decide +kernel
theorem dX9_seekScore_20 : decode cX9_seekScore 20 = .ok (.istore 4, 2) := by decide +kernel
theorem dX9_seekScore_22 : decode cX9_seekScore 22 = .ok (.aload_n 0, 1) := by decide +kernel
theorem dX9_seekScore_23 : decode cX9_seekScore 23 = .ok (.getfield 54, 3) := by decide +kernel
theorem dX9_seekScore_26 : decode cX9_seekScore 26 = .ok (.iload 4, 2) := by decide +kernel
theorem dX9_seekScore_28 : decode cX9_seekScore 28 = .ok (.aload_n 1, 1) := by decide +kernel
theorem dX9_seekScore_29 : decode cX9_seekScore 29 = .ok (.getfield 132, 3) := by decide +kernel
theorem dX9_seekScore_32 : decode cX9_seekScore 32 = .ok (.lload_n 2, 1) := by decide +kernel
theorem dX9_seekScore_33 : decode cX9_seekScore 33 = .ok (.aload_n 0, 1) := by decide +kernel
theorem dX9_seekScore_34 : decode cX9_seekScore 34 = .ok (.getfield 79, 3) := by decide +kernel
theorem dX9_seekScore_37 : decode cX9_seekScore 37 = .ok (.invokevirtual 263, 3) := by decide +kernel
theorem dX9_seekScore_40 : decode cX9_seekScore 40 = .ok (.ifCond .eq 27, 3) := by decide +kernel
theorem dX9_seekScore_43 : decode cX9_seekScore 43 = .ok (.aload_n 0, 1) := by decide +kernel
theorem dX9_seekScore_44 : decode cX9_seekScore 44 = .ok (.getfield 54, 3) := by decide +kernel
theorem dX9_seekScore_47 : decode cX9_seekScore 47 = .ok (.dup, 1) := by decide +kernel
theorem dX9_seekScore_48 : decode cX9_seekScore 48 = .ok (.getfield 267, 3) := by decide +kernel
theorem dX9_seekScore_51 : decode cX9_seekScore 51 = .ok (.iconst 1, 1) := by decide +kernel
theorem dX9_seekScore_52 : decode cX9_seekScore 52 = .ok (.iadd, 1) := by decide +kernel
theorem dX9_seekScore_53 : decode cX9_seekScore 53 = .ok (.putfield 267, 3) := by decide +kernel
theorem dX9_seekScore_56 : decode cX9_seekScore 56 = .ok (.aload_n 0, 1) := by decide +kernel
theorem dX9_seekScore_57 : decode cX9_seekScore 57 = .ok (.getfield 54, 3) := by decide +kernel
theorem dX9_seekScore_60 : decode cX9_seekScore 60 = .ok (.getfield 270, 3) := by decide +kernel
theorem dX9_seekScore_63 : decode cX9_seekScore 63 = .ok (.iload 4, 2) := by decide +kernel
theorem dX9_seekScore_65 : decode cX9_seekScore 65 = .ok (.iaload, 1) := by decide +kernel
theorem dX9_seekScore_66 : decode cX9_seekScore 66 = .ok (.ireturn, 1) := by decide +kernel
theorem dX9_seekScore_67 : decode cX9_seekScore 67 = .ok (.aload_n 0, 1) := by decide +kernel
theorem dX9_seekScore_68 : decode cX9_seekScore 68 = .ok (.getfield 54, 3) := by decide +kernel
theorem dX9_seekScore_71 : decode cX9_seekScore 71 = .ok (.dup, 1) := by decide +kernel
theorem dX9_seekScore_72 : decode cX9_seekScore 72 = .ok (.getfield 273, 3) := by decide +kernel
theorem dX9_seekScore_75 : decode cX9_seekScore 75 = .ok (.iconst 1, 1) := by decide +kernel
theorem dX9_seekScore_76 : decode cX9_seekScore 76 = .ok (.iadd, 1) := by decide +kernel
theorem dX9_seekScore_77 : decode cX9_seekScore 77 = .ok (.putfield 273, 3) := by decide +kernel
theorem dX9_seekScore_80 : decode cX9_seekScore 80 = .ok (.aload_n 0, 1) := by decide +kernel
theorem dX9_seekScore_81 : decode cX9_seekScore 81 = .ok (.getfield 47, 3) := by decide +kernel
theorem dX9_seekScore_84 : decode cX9_seekScore 84 = .ok (.aload_n 1, 1) := by decide +kernel
theorem dX9_seekScore_85 : decode cX9_seekScore 85 = .ok (.aload_n 0, 1) := by decide +kernel
theorem dX9_seekScore_86 : decode cX9_seekScore 86 = .ok (.getfield 33, 3) := by decide +kernel
theorem dX9_seekScore_89 : decode cX9_seekScore 89 = .ok (.aload_n 0, 1) := by decide +kernel
theorem dX9_seekScore_90 : decode cX9_seekScore 90 = .ok (.getfield 26, 3) := by decide +kernel
theorem dX9_seekScore_93 : decode cX9_seekScore 93 = .ok (.invokevirtual 226, 3) := by decide +kernel
theorem dX9_seekScore_96 : decode cX9_seekScore 96 = .ok (.istore 5, 2) := by decide +kernel
theorem dX9_seekScore_98 : decode cX9_seekScore 98 = .ok (.aload_n 0, 1) := by decide +kernel
theorem dX9_seekScore_99 : decode cX9_seekScore 99 = .ok (.getfield 54, 3) := by decide +kernel
theorem dX9_seekScore_102 : decode cX9_seekScore 102 = .ok (.iload 4, 2) := by decide +kernel
theorem dX9_seekScore_104 : decode cX9_seekScore 104 = .ok (.aload_n 1, 1) := by decide +kernel
theorem dX9_seekScore_105 : decode cX9_seekScore 105 = .ok (.getfield 132, 3) := by decide +kernel
theorem dX9_seekScore_108 : decode cX9_seekScore 108 = .ok (.lload_n 2, 1) := by decide +kernel
theorem dX9_seekScore_109 : decode cX9_seekScore 109 = .ok (.aload_n 0, 1) := by decide +kernel
theorem dX9_seekScore_110 : decode cX9_seekScore 110 = .ok (.getfield 79, 3) := by decide +kernel
theorem dX9_seekScore_113 : decode cX9_seekScore 113 = .ok (.iload 5, 2) := by decide +kernel
theorem dX9_seekScore_115 : decode cX9_seekScore 115 = .ok (.invokevirtual 276, 3) := by decide +kernel
theorem dX9_seekScore_118 : decode cX9_seekScore 118 = .ok (.iload 5, 2) := by decide +kernel
theorem dX9_seekScore_120 : decode cX9_seekScore 120 = .ok (.ireturn, 1) := by decide +kernel
theorem dX9_seekScores_0 : decode cX9_seekScores 0 = .ok (.iconst 0, 1) := by decide +kernel
theorem dX9_seekScores_1 : decode cX9_seekScores 1 = .ok (.istore_n 1, 1) := by decide +kernel
theorem dX9_seekScores_2 : decode cX9_seekScores 2 = .ok (.iload_n 1, 1) := by decide +kernel
theorem dX9_seekScores_3 : decode cX9_seekScores 3 = .ok (.aload_n 0, 1) := by decide +kernel
theorem dX9_seekScores_4 : decode cX9_seekScores 4 = .ok (.getfield 19, 3) := by decide +kernel
theorem dX9_seekScores_7 : decode cX9_seekScores 7 = .ok (.getfield 117, 3) := by decide +kernel
theorem dX9_seekScores_10 : decode cX9_seekScores 10 = .ok (.if_icmp .ge 55, 3) := by decide +kernel
theorem dX9_seekScores_13 : decode cX9_seekScores 13 = .ok (.aload_n 0, 1) := by decide +kernel
theorem dX9_seekScores_14 : decode cX9_seekScores 14 = .ok (.getfield 68, 3) := by decide +kernel
theorem dX9_seekScores_17 : decode cX9_seekScores 17 = .ok (.getfield 280, 3) := by decide +kernel
theorem dX9_seekScores_20 : decode cX9_seekScores 20 = .ok (.iload_n 1, 1) := by decide +kernel
theorem dX9_seekScores_21 : decode cX9_seekScores 21 = .ok (.aload_n 0, 1) := by decide +kernel
theorem dX9_seekScores_22 : decode cX9_seekScores 22 = .ok (.getfield 19, 3) := by decide +kernel
theorem dX9_seekScores_25 : decode cX9_seekScores 25 = .ok (.getfield 122, 3) := by decide +kernel
theorem dX9_seekScores_28 : decode cX9_seekScores 28 = .ok (.iload_n 1, 1) := by decide +kernel
theorem dX9_seekScores_29 : decode cX9_seekScores 29 = .ok (.aaload, 1) := by decide +kernel
theorem dX9_seekScores_30 : decode cX9_seekScores 30 = .ok (.aload_n 0, 1) := by decide +kernel
theorem dX9_seekScores_31 : decode cX9_seekScores 31 = .ok (.getfield 33, 3) := by decide +kernel
theorem dX9_seekScores_34 : decode cX9_seekScores 34 = .ok (.invokevirtual 237, 3) := by decide +kernel
theorem dX9_seekScores_37 : decode cX9_seekScores 37 = .ok (.ifCond .eq 19, 3) := by decide +kernel
theorem dX9_seekScores_40 : decode cX9_seekScores 40 = .ok (.aload_n 0, 1) := by decide +kernel
theorem dX9_seekScores_41 : decode cX9_seekScores 41 = .ok (.aload_n 0, 1) := by decide +kernel
theorem dX9_seekScores_42 : decode cX9_seekScores 42 = .ok (.getfield 19, 3) := by decide +kernel
theorem dX9_seekScores_45 : decode cX9_seekScores 45 = .ok (.getfield 122, 3) := by decide +kernel
theorem dX9_seekScores_48 : decode cX9_seekScores 48 = .ok (.iload_n 1, 1) := by decide +kernel
theorem dX9_seekScores_49 : decode cX9_seekScores 49 = .ok (.aaload, 1) := by decide +kernel
theorem dX9_seekScores_50 : decode cX9_seekScores 50 = .ok (.invokevirtual 203, 3) := by decide +kernel
theorem dX9_seekScores_53 : decode cX9_seekScores 53 = .ok (.goto 5, 3) := by decide +kernel
theorem dX9_seekScores_56 : decode cX9_seekScores 56 = .ok (.bipush (-4), 2) := by decide +kernel
theorem dX9_seekScores_58 : decode cX9_seekScores 58 = .ok (.iastore, 1) := by decide +kernel
theorem dX9_seekScores_59 : decode cX9_seekScores 59 = .ok (.iinc 1 1, 3) := by decide +kernel
theorem dX9_seekScores_62 : decode cX9_seekScores 62 = .ok (.goto (-60), 3) := by decide +kernel
theorem dX9_seekScores_65 : decode cX9_seekScores 65 = .ok (.return_, 1) := by decide +kernel
theorem dX9_isFirstBy_0 : decode cX9_isFirstBy 0 = .ok (.aload_n 0, 1) := by decide +kernel
theorem dX9_isFirstBy_1 : decode cX9_isFirstBy 1 = .ok (.getfield 37, 3) := by decide +kernel
theorem dX9_isFirstBy_4 : decode cX9_isFirstBy 4 = .ok (.invokevirtual 158, 3) := by decide +kernel
theorem dX9_isFirstBy_7 : decode cX9_isFirstBy 7 = .ok (.aload_n 0, 1) := by decide +kernel
theorem dX9_isFirstBy_8 : decode cX9_isFirstBy 8 = .ok (.getfield 37, 3) := by decide +kernel
theorem dX9_isFirstBy_11 : decode cX9_isFirstBy 11 = .ok (.bipush 97, 2) := by decide +kernel
theorem dX9_isFirstBy_13 : decode cX9_isFirstBy 13 = .ok (.iload_n 2, 1) := by decide +kernel
theorem dX9_isFirstBy_14 : decode cX9_isFirstBy 14 = .ok (.iadd, 1) := by decide +kernel
theorem dX9_isFirstBy_15 : decode cX9_isFirstBy 15 = .ok (.iconst 1, 1) := by decide +kernel
theorem dX9_isFirstBy_16 : decode cX9_isFirstBy 16 = .ok (.isub, 1) := by decide +kernel
theorem dX9_isFirstBy_17 : decode cX9_isFirstBy 17 = .ok (.i2c, 1) := by decide +kernel
theorem dX9_isFirstBy_18 : decode cX9_isFirstBy 18 = .ok (.invokevirtual 183, 3) := by decide +kernel
theorem dX9_isFirstBy_21 : decode cX9_isFirstBy 21 = .ok (.iload_n 3, 1) := by decide +kernel
theorem dX9_isFirstBy_22 : decode cX9_isFirstBy 22 = .ok (.ifCond .le 17, 3) := by decide +kernel
theorem dX9_isFirstBy_25 : decode cX9_isFirstBy 25 = .ok (.aload_n 0, 1) := by decide +kernel
theorem dX9_isFirstBy_26 : decode cX9_isFirstBy 26 = .ok (.getfield 37, 3) := by decide +kernel
theorem dX9_isFirstBy_29 : decode cX9_isFirstBy 29 = .ok (.bipush 97, 2) := by decide +kernel
theorem dX9_isFirstBy_31 : decode cX9_isFirstBy 31 = .ok (.iload_n 3, 1) := by decide +kernel
theorem dX9_isFirstBy_32 : decode cX9_isFirstBy 32 = .ok (.iadd, 1) := by decide +kernel
theorem dX9_isFirstBy_33 : decode cX9_isFirstBy 33 = .ok (.iconst 1, 1) := by decide +kernel
theorem dX9_isFirstBy_34 : decode cX9_isFirstBy 34 = .ok (.isub, 1) := by decide +kernel
theorem dX9_isFirstBy_35 : decode cX9_isFirstBy 35 = .ok (.i2c, 1) := by decide +kernel
theorem dX9_isFirstBy_36 : decode cX9_isFirstBy 36 = .ok (.invokevirtual 183, 3) := by decide +kernel
theorem dX9_isFirstBy_39 : decode cX9_isFirstBy 39 = .ok (.aload_n 0, 1) := by decide +kernel
theorem dX9_isFirstBy_40 : decode cX9_isFirstBy 40 = .ok (.getfield 19, 3) := by decide +kernel
theorem dX9_isFirstBy_43 : decode cX9_isFirstBy 43 = .ok (.getfield 122, 3) := by decide +kernel
theorem dX9_isFirstBy_46 : decode cX9_isFirstBy 46 = .ok (.iload_n 1, 1) := by decide +kernel
theorem dX9_isFirstBy_47 : decode cX9_isFirstBy 47 = .ok (.aaload, 1) := by decide +kernel
theorem dX9_isFirstBy_48 : decode cX9_isFirstBy 48 = .ok (.aload_n 0, 1) := by decide +kernel
theorem dX9_isFirstBy_49 : decode cX9_isFirstBy 49 = .ok (.getfield 37, 3) := by decide +kernel
theorem dX9_isFirstBy_52 : decode cX9_isFirstBy 52 = .ok (.invokevirtual 237, 3) := by decide +kernel
theorem dX9_isFirstBy_55 : decode cX9_isFirstBy 55 = .ok (.ifCond .ne 5, 3) := by decide +kernel
theorem dX9_isFirstBy_58 : decode cX9_isFirstBy 58 = .ok (.iconst 0, 1) := by decide +kernel
theorem dX9_isFirstBy_59 : decode cX9_isFirstBy 59 = .ok (.ireturn, 1) := by decide +kernel
theorem dX9_isFirstBy_60 : decode cX9_isFirstBy 60 = .ok (.iconst 0, 1) := by decide +kernel
theorem dX9_isFirstBy_61 : decode cX9_isFirstBy 61 = .ok (.istore 4, 2) := by decide +kernel
theorem dX9_isFirstBy_63 : decode cX9_isFirstBy 63 = .ok (.iload 4, 2) := by decide +kernel
theorem dX9_isFirstBy_65 : decode cX9_isFirstBy 65 = .ok (.aload_n 0, 1) := by decide +kernel
theorem dX9_isFirstBy_66 : decode cX9_isFirstBy 66 = .ok (.getfield 19, 3) := by decide +kernel
theorem dX9_isFirstBy_69 : decode cX9_isFirstBy 69 = .ok (.getfield 117, 3) := by decide +kernel
theorem dX9_isFirstBy_72 : decode cX9_isFirstBy 72 = .ok (.if_icmp .ge 44, 3) := by decide +kernel
theorem dX9_isFirstBy_75 : decode cX9_isFirstBy 75 = .ok (.aload_n 0, 1) := by decide +kernel
theorem dX9_isFirstBy_76 : decode cX9_isFirstBy 76 = .ok (.getfield 68, 3) := by decide +kernel
theorem dX9_isFirstBy_79 : decode cX9_isFirstBy 79 = .ok (.getfield 280, 3) := by decide +kernel
theorem dX9_isFirstBy_82 : decode cX9_isFirstBy 82 = .ok (.iload 4, 2) := by decide +kernel
theorem dX9_isFirstBy_84 : decode cX9_isFirstBy 84 = .ok (.aload_n 0, 1) := by decide +kernel
theorem dX9_isFirstBy_85 : decode cX9_isFirstBy 85 = .ok (.getfield 47, 3) := by decide +kernel
theorem dX9_isFirstBy_88 : decode cX9_isFirstBy 88 = .ok (.aload_n 0, 1) := by decide +kernel
theorem dX9_isFirstBy_89 : decode cX9_isFirstBy 89 = .ok (.getfield 19, 3) := by decide +kernel
theorem dX9_isFirstBy_92 : decode cX9_isFirstBy 92 = .ok (.getfield 122, 3) := by decide +kernel
theorem dX9_isFirstBy_95 : decode cX9_isFirstBy 95 = .ok (.iload 4, 2) := by decide +kernel
theorem dX9_isFirstBy_97 : decode cX9_isFirstBy 97 = .ok (.aaload, 1) := by decide +kernel
theorem dX9_isFirstBy_98 : decode cX9_isFirstBy 98 = .ok (.aload_n 0, 1) := by decide +kernel
theorem dX9_isFirstBy_99 : decode cX9_isFirstBy 99 = .ok (.getfield 37, 3) := by decide +kernel
theorem dX9_isFirstBy_102 : decode cX9_isFirstBy 102 = .ok (.aload_n 0, 1) := by decide +kernel
theorem dX9_isFirstBy_103 : decode cX9_isFirstBy 103 = .ok (.getfield 26, 3) := by decide +kernel
theorem dX9_isFirstBy_106 : decode cX9_isFirstBy 106 = .ok (.invokevirtual 226, 3) := by decide +kernel
theorem dX9_isFirstBy_109 : decode cX9_isFirstBy 109 = .ok (.iastore, 1) := by decide +kernel
theorem dX9_isFirstBy_110 : decode cX9_isFirstBy 110 = .ok (.iinc 4 1, 3) := by decide +kernel
theorem dX9_isFirstBy_113 : decode cX9_isFirstBy 113 = .ok (.goto (-50), 3) := by decide +kernel
theorem dX9_isFirstBy_116 : decode cX9_isFirstBy 116 = .ok (.aload_n 0, 1) := by decide +kernel
theorem dX9_isFirstBy_117 : decode cX9_isFirstBy 117 = .ok (.getfield 68, 3) := by decide +kernel
theorem dX9_isFirstBy_120 : decode cX9_isFirstBy 120 = .ok (.aload_n 0, 1) := by decide +kernel
theorem dX9_isFirstBy_121 : decode cX9_isFirstBy 121 = .ok (.getfield 19, 3) := by decide +kernel
theorem dX9_isFirstBy_124 : decode cX9_isFirstBy 124 = .ok (.iload_n 1, 1) := by decide +kernel
theorem dX9_isFirstBy_125 : decode cX9_isFirstBy 125 = .ok (.invokevirtual 281, 3) := by decide +kernel
theorem dX9_isFirstBy_128 : decode cX9_isFirstBy 128 = .ok (.ireturn, 1) := by decide +kernel
theorem dX9_keep_0 : decode cX9_keep 0 = .ok (.aload_n 0, 1) := by decide +kernel
theorem dX9_keep_1 : decode cX9_keep 1 = .ok (.getfield 72, 3) := by decide +kernel
theorem dX9_keep_4 : decode cX9_keep 4 = .ok (.iconst 2, 1) := by decide +kernel
theorem dX9_keep_5 : decode cX9_keep 5 = .ok (.if_icmp .lt 6, 3) := by decide +kernel
theorem dX9_keep_8 : decode cX9_keep 8 = .ok (.bipush (-3), 2) := by decide +kernel
theorem dX9_keep_10 : decode cX9_keep 10 = .ok (.ireturn, 1) := by decide +kernel
theorem dX9_keep_11 : decode cX9_keep 11 = .ok (.aload_n 0, 1) := by decide +kernel
theorem dX9_keep_12 : decode cX9_keep 12 = .ok (.getfield 40, 3) := by decide +kernel
theorem dX9_keep_15 : decode cX9_keep 15 = .ok (.aload_n 0, 1) := by decide +kernel
theorem dX9_keep_16 : decode cX9_keep 16 = .ok (.getfield 72, 3) := by decide +kernel
theorem dX9_keep_19 : decode cX9_keep 19 = .ok (.aaload, 1) := by decide +kernel
theorem dX9_keep_20 : decode cX9_keep 20 = .ok (.aload_n 0, 1) := by decide +kernel
theorem dX9_keep_21 : decode cX9_keep 21 = .ok (.getfield 33, 3) := by decide +kernel
theorem dX9_keep_24 : decode cX9_keep 24 = .ok (.invokevirtual 285, 3) := by decide +kernel
theorem dX9_keep_27 : decode cX9_keep 27 = .ok (.aload_n 0, 1) := by decide +kernel
theorem dX9_keep_28 : decode cX9_keep 28 = .ok (.dup, 1) := by decide +kernel
theorem dX9_keep_29 : decode cX9_keep 29 = .ok (.getfield 72, 3) := by decide +kernel
theorem dX9_keep_32 : decode cX9_keep 32 = .ok (.iconst 1, 1) := by decide +kernel
theorem dX9_keep_33 : decode cX9_keep 33 = .ok (.iadd, 1) := by decide +kernel
theorem dX9_keep_34 : decode cX9_keep 34 = .ok (.putfield 72, 3) := by decide +kernel
theorem dX9_keep_37 : decode cX9_keep 37 = .ok (.aload_n 0, 1) := by decide +kernel
theorem dX9_keep_38 : decode cX9_keep 38 = .ok (.getfield 72, 3) := by decide +kernel
theorem dX9_keep_41 : decode cX9_keep 41 = .ok (.ireturn, 1) := by decide +kernel
theorem dX9_back_0 : decode cX9_back 0 = .ok (.aload_n 0, 1) := by decide +kernel
theorem dX9_back_1 : decode cX9_back 1 = .ok (.getfield 72, 3) := by decide +kernel
theorem dX9_back_4 : decode cX9_back 4 = .ok (.ifCond .ne 6, 3) := by decide +kernel
theorem dX9_back_7 : decode cX9_back 7 = .ok (.bipush (-2), 2) := by decide +kernel
theorem dX9_back_9 : decode cX9_back 9 = .ok (.ireturn, 1) := by decide +kernel
theorem dX9_back_10 : decode cX9_back 10 = .ok (.aload_n 0, 1) := by decide +kernel
theorem dX9_back_11 : decode cX9_back 11 = .ok (.dup, 1) := by decide +kernel
theorem dX9_back_12 : decode cX9_back 12 = .ok (.getfield 72, 3) := by decide +kernel
theorem dX9_back_15 : decode cX9_back 15 = .ok (.iconst 1, 1) := by decide +kernel
theorem dX9_back_16 : decode cX9_back 16 = .ok (.isub, 1) := by decide +kernel
theorem dX9_back_17 : decode cX9_back 17 = .ok (.putfield 72, 3) := by decide +kernel
theorem dX9_back_20 : decode cX9_back 20 = .ok (.aload_n 0, 1) := by decide +kernel
theorem dX9_back_21 : decode cX9_back 21 = .ok (.getfield 33, 3) := by decide +kernel
theorem dX9_back_24 : decode cX9_back 24 = .ok (.aload_n 0, 1) := by decide +kernel
theorem dX9_back_25 : decode cX9_back 25 = .ok (.getfield 40, 3) := by decide +kernel
theorem dX9_back_28 : decode cX9_back 28 = .ok (.aload_n 0, 1) := by decide +kernel
theorem dX9_back_29 : decode cX9_back 29 = .ok (.getfield 72, 3) := by decide +kernel
theorem dX9_back_32 : decode cX9_back 32 = .ok (.aaload, 1) := by decide +kernel
theorem dX9_back_33 : decode cX9_back 33 = .ok (.invokevirtual 285, 3) := by decide +kernel
theorem dX9_back_36 : decode cX9_back 36 = .ok (.aload_n 0, 1) := by decide +kernel
theorem dX9_back_37 : decode cX9_back 37 = .ok (.getfield 72, 3) := by decide +kernel
theorem dX9_back_40 : decode cX9_back 40 = .ok (.ireturn, 1) := by decide +kernel
theorem dX9_count_0 : decode cX9_count 0 = .ok (.iload_n 1, 1) := by decide +kernel
theorem dX9_count_1 : decode cX9_count 1 = .ok (.tableswitch 164 0 12 #[67, 75, 83, 91, 99, 107, 112, 117, 125, 133, 138, 143, 151], 67) := by decide +kernel
theorem dX9_count_68 : decode cX9_count 68 = .ok (.aload_n 0, 1) := by decide +kernel
theorem dX9_count_69 : decode cX9_count 69 = .ok (.getfield 19, 3) := by decide +kernel
theorem dX9_count_72 : decode cX9_count 72 = .ok (.getfield 117, 3) := by decide +kernel
theorem dX9_count_75 : decode cX9_count 75 = .ok (.ireturn, 1) := by decide +kernel
theorem dX9_count_76 : decode cX9_count 76 = .ok (.aload_n 0, 1) := by decide +kernel
theorem dX9_count_77 : decode cX9_count 77 = .ok (.getfield 26, 3) := by decide +kernel
theorem dX9_count_80 : decode cX9_count 80 = .ok (.getfield 289, 3) := by decide +kernel
theorem dX9_count_83 : decode cX9_count 83 = .ok (.ireturn, 1) := by decide +kernel
theorem dX9_count_84 : decode cX9_count 84 = .ok (.aload_n 0, 1) := by decide +kernel
theorem dX9_count_85 : decode cX9_count 85 = .ok (.getfield 26, 3) := by decide +kernel
theorem dX9_count_88 : decode cX9_count 88 = .ok (.getfield 292, 3) := by decide +kernel
theorem dX9_count_91 : decode cX9_count 91 = .ok (.ireturn, 1) := by decide +kernel
theorem dX9_count_92 : decode cX9_count 92 = .ok (.aload_n 0, 1) := by decide +kernel
theorem dX9_count_93 : decode cX9_count 93 = .ok (.getfield 26, 3) := by decide +kernel
theorem dX9_count_96 : decode cX9_count 96 = .ok (.getfield 295, 3) := by decide +kernel
theorem dX9_count_99 : decode cX9_count 99 = .ok (.ireturn, 1) := by decide +kernel
theorem dX9_count_100 : decode cX9_count 100 = .ok (.aload_n 0, 1) := by decide +kernel
theorem dX9_count_101 : decode cX9_count 101 = .ok (.getfield 19, 3) := by decide +kernel
theorem dX9_count_104 : decode cX9_count 104 = .ok (.getfield 298, 3) := by decide +kernel
theorem dX9_count_107 : decode cX9_count 107 = .ok (.ireturn, 1) := by decide +kernel
theorem dX9_count_108 : decode cX9_count 108 = .ok (.aload_n 0, 1) := by decide +kernel
theorem dX9_count_109 : decode cX9_count 109 = .ok (.getfield 76, 3) := by decide +kernel
theorem dX9_count_112 : decode cX9_count 112 = .ok (.ireturn, 1) := by decide +kernel
theorem dX9_count_113 : decode cX9_count 113 = .ok (.aload_n 0, 1) := by decide +kernel
theorem dX9_count_114 : decode cX9_count 114 = .ok (.getfield 79, 3) := by decide +kernel
theorem dX9_count_117 : decode cX9_count 117 = .ok (.ireturn, 1) := by decide +kernel
theorem dX9_count_118 : decode cX9_count 118 = .ok (.aload_n 0, 1) := by decide +kernel
theorem dX9_count_119 : decode cX9_count 119 = .ok (.getfield 54, 3) := by decide +kernel
theorem dX9_count_122 : decode cX9_count 122 = .ok (.getfield 267, 3) := by decide +kernel
theorem dX9_count_125 : decode cX9_count 125 = .ok (.ireturn, 1) := by decide +kernel
theorem dX9_count_126 : decode cX9_count 126 = .ok (.aload_n 0, 1) := by decide +kernel
theorem dX9_count_127 : decode cX9_count 127 = .ok (.getfield 54, 3) := by decide +kernel
theorem dX9_count_130 : decode cX9_count 130 = .ok (.getfield 273, 3) := by decide +kernel
theorem dX9_count_133 : decode cX9_count 133 = .ok (.ireturn, 1) := by decide +kernel
theorem dX9_count_134 : decode cX9_count 134 = .ok (.aload_n 0, 1) := by decide +kernel
theorem dX9_count_135 : decode cX9_count 135 = .ok (.getfield 82, 3) := by decide +kernel
theorem dX9_count_138 : decode cX9_count 138 = .ok (.ireturn, 1) := by decide +kernel
theorem dX9_count_139 : decode cX9_count 139 = .ok (.aload_n 0, 1) := by decide +kernel
theorem dX9_count_140 : decode cX9_count 140 = .ok (.getfield 72, 3) := by decide +kernel
theorem dX9_count_143 : decode cX9_count 143 = .ok (.ireturn, 1) := by decide +kernel
theorem dX9_count_144 : decode cX9_count 144 = .ok (.aload_n 0, 1) := by decide +kernel
theorem dX9_count_145 : decode cX9_count 145 = .ok (.getfield 10, 3) := by decide +kernel
theorem dX9_count_148 : decode cX9_count 148 = .ok (.getfield 107, 3) := by decide +kernel
theorem dX9_count_151 : decode cX9_count 151 = .ok (.ireturn, 1) := by decide +kernel
theorem dX9_count_152 : decode cX9_count 152 = .ok (.aload_n 0, 1) := by decide +kernel
theorem dX9_count_153 : decode cX9_count 153 = .ok (.getfield 33, 3) := by decide +kernel
theorem dX9_count_156 : decode cX9_count 156 = .ok (.invokevirtual 214, 3) := by decide +kernel
theorem dX9_count_159 : decode cX9_count 159 = .ok (.ldc2_w 246, 3) := by decide +kernel
theorem dX9_count_162 : decode cX9_count 162 = .ok (.lrem, 1) := by decide +kernel
theorem dX9_count_163 : decode cX9_count 163 = .ok (.l2i, 1) := by decide +kernel
theorem dX9_count_164 : decode cX9_count 164 = .ok (.ireturn, 1) := by decide +kernel
theorem dX9_count_165 : decode cX9_count 165 = .ok (.iconst (-1), 1) := by decide +kernel
theorem dX9_count_166 : decode cX9_count 166 = .ok (.ireturn, 1) := by decide +kernel
theorem dX9_isSmall_0 : decode cX9_isSmall 0 = .ok (.iload_n 0, 1) := by decide +kernel
theorem dX9_isSmall_1 : decode cX9_isSmall 1 = .ok (.bipush 97, 2) := by decide +kernel
theorem dX9_isSmall_3 : decode cX9_isSmall 3 = .ok (.if_icmp .lt 13, 3) := by decide +kernel
theorem dX9_isSmall_6 : decode cX9_isSmall 6 = .ok (.iload_n 0, 1) := by decide +kernel
theorem dX9_isSmall_7 : decode cX9_isSmall 7 = .ok (.bipush 122, 2) := by decide +kernel
theorem dX9_isSmall_9 : decode cX9_isSmall 9 = .ok (.if_icmp .gt 7, 3) := by decide +kernel
theorem dX9_isSmall_12 : decode cX9_isSmall 12 = .ok (.iconst 1, 1) := by decide +kernel
theorem dX9_isSmall_13 : decode cX9_isSmall 13 = .ok (.goto 4, 3) := by decide +kernel
theorem dX9_isSmall_16 : decode cX9_isSmall 16 = .ok (.iconst 0, 1) := by decide +kernel
theorem dX9_isSmall_17 : decode cX9_isSmall 17 = .ok (.ireturn, 1) := by decide +kernel
theorem dX9_isGreat_0 : decode cX9_isGreat 0 = .ok (.iload_n 0, 1) := by decide +kernel
theorem dX9_isGreat_1 : decode cX9_isGreat 1 = .ok (.bipush 65, 2) := by decide +kernel
theorem dX9_isGreat_3 : decode cX9_isGreat 3 = .ok (.if_icmp .lt 13, 3) := by decide +kernel
theorem dX9_isGreat_6 : decode cX9_isGreat 6 = .ok (.iload_n 0, 1) := by decide +kernel
theorem dX9_isGreat_7 : decode cX9_isGreat 7 = .ok (.bipush 90, 2) := by decide +kernel
theorem dX9_isGreat_9 : decode cX9_isGreat 9 = .ok (.if_icmp .gt 7, 3) := by decide +kernel
theorem dX9_isGreat_12 : decode cX9_isGreat 12 = .ok (.iconst 1, 1) := by decide +kernel
theorem dX9_isGreat_13 : decode cX9_isGreat 13 = .ok (.goto 4, 3) := by decide +kernel
theorem dX9_isGreat_16 : decode cX9_isGreat 16 = .ok (.iconst 0, 1) := by decide +kernel
theorem dX9_isGreat_17 : decode cX9_isGreat 17 = .ok (.ireturn, 1) := by decide +kernel
theorem dX9_isLetter_0 : decode cX9_isLetter 0 = .ok (.iload_n 0, 1) := by decide +kernel
theorem dX9_isLetter_1 : decode cX9_isLetter 1 = .ok (.invokestatic 301, 3) := by decide +kernel
theorem dX9_isLetter_4 : decode cX9_isLetter 4 = .ok (.ifCond .ne 10, 3) := by decide +kernel
theorem dX9_isLetter_7 : decode cX9_isLetter 7 = .ok (.iload_n 0, 1) := by decide +kernel
theorem dX9_isLetter_8 : decode cX9_isLetter 8 = .ok (.invokestatic 304, 3) := by decide +kernel
theorem dX9_isLetter_11 : decode cX9_isLetter 11 = .ok (.ifCond .eq 7, 3) := by decide +kernel
theorem dX9_isLetter_14 : decode cX9_isLetter 14 = .ok (.iconst 1, 1) := by decide +kernel
theorem dX9_isLetter_15 : decode cX9_isLetter 15 = .ok (.goto 4, 3) := by decide +kernel
theorem dX9_isLetter_18 : decode cX9_isLetter 18 = .ok (.iconst 0, 1) := by decide +kernel
theorem dX9_isLetter_19 : decode cX9_isLetter 19 = .ok (.ireturn, 1) := by decide +kernel
theorem dX9_isSign_0 : decode cX9_isSign 0 = .ok (.iload_n 0, 1) := by decide +kernel
theorem dX9_isSign_1 : decode cX9_isSign 1 = .ok (.invokestatic 179, 3) := by decide +kernel
theorem dX9_isSign_4 : decode cX9_isSign 4 = .ok (.ifCond .ne 9, 3) := by decide +kernel
theorem dX9_isSign_7 : decode cX9_isSign 7 = .ok (.iload_n 0, 1) := by decide +kernel
theorem dX9_isSign_8 : decode cX9_isSign 8 = .ok (.bipush 95, 2) := by decide +kernel
theorem dX9_isSign_10 : decode cX9_isSign 10 = .ok (.if_icmp .ne 7, 3) := by decide +kernel
theorem dX9_isSign_13 : decode cX9_isSign 13 = .ok (.iconst 1, 1) := by decide +kernel
theorem dX9_isSign_14 : decode cX9_isSign 14 = .ok (.goto 4, 3) := by decide +kernel
theorem dX9_isSign_17 : decode cX9_isSign 17 = .ok (.iconst 0, 1) := by decide +kernel
theorem dX9_isSign_18 : decode cX9_isSign 18 = .ok (.ireturn, 1) := by decide +kernel
theorem dX9_letterNumber_0 : decode cX9_letterNumber 0 = .ok (.iload_n 0, 1) := by decide +kernel
theorem dX9_letterNumber_1 : decode cX9_letterNumber 1 = .ok (.invokestatic 301, 3) := by decide +kernel
theorem dX9_letterNumber_4 : decode cX9_letterNumber 4 = .ok (.ifCond .eq 10, 3) := by decide +kernel
theorem dX9_letterNumber_7 : decode cX9_letterNumber 7 = .ok (.iload_n 0, 1) := by decide +kernel
theorem dX9_letterNumber_8 : decode cX9_letterNumber 8 = .ok (.bipush 97, 2) := by decide +kernel
theorem dX9_letterNumber_10 : decode cX9_letterNumber 10 = .ok (.isub, 1) := by decide +kernel
theorem dX9_letterNumber_11 : decode cX9_letterNumber 11 = .ok (.goto 7, 3) := by decide +kernel
theorem dX9_letterNumber_14 : decode cX9_letterNumber 14 = .ok (.iload_n 0, 1) := by decide +kernel
theorem dX9_letterNumber_15 : decode cX9_letterNumber 15 = .ok (.bipush 65, 2) := by decide +kernel
theorem dX9_letterNumber_17 : decode cX9_letterNumber 17 = .ok (.isub, 1) := by decide +kernel
theorem dX9_letterNumber_18 : decode cX9_letterNumber 18 = .ok (.ireturn, 1) := by decide +kernel
