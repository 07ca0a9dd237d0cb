theorem dX0_init_0 : decode cX0_init 0 = .ok (.aload_n 0, 1) := by decide +kernel
theorem dX0_init_1 : decode cX0_init 1 = .ok (.invokespecial 3, 3) := by decide +kernel
theorem dX0_init_4 : decode cX0_init 4 = .ok (.aload_n 0, 1) := by decide +kernel
theorem dX0_init_5 : decode cX0_init 5 = .ok (.iload_n 1, 1) := by decide +kernel
theorem dX0_init_6 : decode cX0_init 6 = .ok (.ifCond .le 14, 3) := by decide +kernel
theorem dX0_init_9 : decode cX0_init 9 = .ok (.iload_n 1, 1) := by decide +kernel
theorem dX0_init_10 : decode cX0_init 10 = .ok (.sipush 800, 3) := by decide +kernel
theorem dX0_init_13 : decode cX0_init 13 = .ok (.if_icmp .gt 7, 3) := by decide +kernel
theorem dX0_init_16 : decode cX0_init 16 = .ok (.iload_n 1, 1) := by decide +kernel
theorem dX0_init_17 : decode cX0_init 17 = .ok (.goto 4, 3) := by decide +kernel
theorem dX0_init_20 : decode cX0_init 20 = .ok (.iconst 0, 1) := by decide +kernel
theorem dX0_init_21 : decode cX0_init 21 = .ok (.newarray .int, 2) := by decide +kernel
theorem dX0_init_23 : decode cX0_init 23 = .ok (.putfield 9, 3) := by decide +kernel
theorem dX0_init_26 : decode cX0_init 26 = .ok (.aload_n 0, 1) := by decide +kernel
theorem dX0_init_27 : decode cX0_init 27 = .ok (.iconst 0, 1) := by decide +kernel
theorem dX0_init_28 : decode cX0_init 28 = .ok (.putfield 15, 3) := by decide +kernel
theorem dX0_init_31 : decode cX0_init 31 = .ok (.return_, 1) := by decide +kernel
theorem dX0_size_0 : decode cX0_size 0 = .ok (.aload_n 0, 1) := by decide +kernel
theorem dX0_size_1 : decode cX0_size 1 = .ok (.getfield 15, 3) := by decide +kernel
theorem dX0_size_4 : decode cX0_size 4 = .ok (.ireturn, 1) := by decide +kernel
theorem dX0_get_0 : decode cX0_get 0 = .ok (.iload_n 1, 1) := by decide +kernel
theorem dX0_get_1 : decode cX0_get 1 = .ok (.ifCond .lt 29, 3) := by decide +kernel
theorem dX0_get_4 : decode cX0_get 4 = .ok (.iload_n 1, 1) := by decide +kernel
theorem dX0_get_5 : decode cX0_get 5 = .ok (.aload_n 0, 1) := by decide +kernel
theorem dX0_get_6 : decode cX0_get 6 = .ok (.getfield 15, 3) := by decide +kernel
theorem dX0_get_9 : decode cX0_get 9 = .ok (.if_icmp .ge 21, 3) := by decide +kernel
theorem dX0_get_12 : decode cX0_get 12 = .ok (.iload_n 1, 1) := by decide +kernel
theorem dX0_get_13 : decode cX0_get 13 = .ok (.aload_n 0, 1) := by decide +kernel
theorem dX0_get_14 : decode cX0_get 14 = .ok (.getfield 9, 3) := by decide +kernel
theorem dX0_get_17 : decode cX0_get 17 = .ok (.arraylength, 1) := by decide +kernel
theorem dX0_get_18 : decode cX0_get 18 = .ok (.if_icmp .ge 12, 3) := by decide +kernel
theorem dX0_get_21 : decode cX0_get 21 = .ok (.aload_n 0, 1) := by decide +kernel
theorem dX0_get_22 : decode cX0_get 22 = .ok (.getfield 9, 3) := by decide +kernel
theorem dX0_get_25 : decode cX0_get 25 = .ok (.iload_n 1, 1) := by decide +kernel
theorem dX0_get_26 : decode cX0_get 26 = .ok (.iaload, 1) := by decide +kernel
theorem dX0_get_27 : decode cX0_get 27 = .ok (.goto 4, 3) := by decide +kernel
theorem dX0_get_30 : decode cX0_get 30 = .ok (.iconst (-1), 1) := by decide +kernel
theorem dX0_get_31 : decode cX0_get 31 = .ok (.ireturn, 1) := by decide +kernel
theorem dX0_add_0 : decode cX0_add 0 = .ok (.aload_n 0, 1) := by decide +kernel
theorem dX0_add_1 : decode cX0_add 1 = .ok (.getfield 15, 3) := by decide +kernel
theorem dX0_add_4 : decode cX0_add 4 = .ok (.ifCond .lt 35, 3) := by decide +kernel
theorem dX0_add_7 : decode cX0_add 7 = .ok (.aload_n 0, 1) := by decide +kernel
theorem dX0_add_8 : decode cX0_add 8 = .ok (.getfield 15, 3) := by decide +kernel
theorem dX0_add_11 : decode cX0_add 11 = .ok (.aload_n 0, 1) := by decide +kernel
theorem dX0_add_12 : decode cX0_add 12 = .ok (.getfield 9, 3) := by decide +kernel
theorem dX0_add_15 : decode cX0_add 15 = .ok (.arraylength, 1) := by decide +kernel
theorem dX0_add_16 : decode cX0_add 16 = .ok (.if_icmp .ge 23, 3) := by decide +kernel
theorem dX0_add_19 : decode cX0_add 19 = .ok (.aload_n 0, 1) := by decide +kernel
theorem dX0_add_20 : decode cX0_add 20 = .ok (.getfield 9, 3) := by decide +kernel
theorem dX0_add_23 : decode cX0_add 23 = .ok (.aload_n 0, 1) := by decide +kernel
theorem dX0_add_24 : decode cX0_add 24 = .ok (.getfield 15, 3) := by decide +kernel
theorem dX0_add_27 : decode cX0_add 27 = .ok (.iload_n 1, 1) := by decide +kernel
theorem dX0_add_28 : decode cX0_add 28 = .ok (.iastore, 1) := by decide +kernel
theorem dX0_add_29 : decode cX0_add 29 = .ok (.aload_n 0, 1) := by decide +kernel
theorem dX0_add_30 : decode cX0_add 30 = .ok (.dup, 1) := by decide +kernel
theorem dX0_add_31 : decode cX0_add 31 = .ok (.getfield 15, 3) := by decide +kernel
theorem dX0_add_34 : decode cX0_add 34 = .ok (.iconst 1, 1) := by decide +kernel
theorem dX0_add_35 : decode cX0_add 35 = .ok (.iadd, 1) := by decide +kernel
theorem dX0_add_36 : decode cX0_add 36 = .ok (.putfield 15, 3) := by decide +kernel
theorem dX0_add_39 : decode cX0_add 39 = .ok (.return_, 1) := by decide +kernel
theorem dX0_addText_0 : decode cX0_addText 0 = .ok (.iconst 0, 1) := by decide +kernel
theorem dX0_addText_1 : decode cX0_addText 1 = .ok (.istore_n 2, 1) := by decide +kernel
theorem dX0_addText_2 : decode cX0_addText 2 = .ok (.iload_n 2, 1) := by decide +kernel
theorem dX0_addText_3 : decode cX0_addText 3 = .ok (.aload_n 1, 1) := by decide +kernel
theorem dX0_addText_4 : decode cX0_addText 4 = .ok (.invokevirtual 19, 3) := by decide +kernel
theorem dX0_addText_7 : decode cX0_addText 7 = .ok (.if_icmp .ge 18, 3) := by decide +kernel
theorem dX0_addText_10 : decode cX0_addText 10 = .ok (.aload_n 0, 1) := by decide +kernel
theorem dX0_addText_11 : decode cX0_addText 11 = .ok (.aload_n 1, 1) := by decide +kernel
theorem dX0_addText_12 : decode cX0_addText 12 = .ok (.iload_n 2, 1) := by decide +kernel
theorem dX0_addText_13 : decode cX0_addText 13 = .ok (.invokevirtual 25, 3) := by decide +kernel
theorem dX0_addText_16 : decode cX0_addText 16 = .ok (.invokevirtual 29, 3) := by decide +kernel
theorem dX0_addText_19 : decode cX0_addText 19 = .ok (.iinc 2 1, 3) := by decide +kernel
theorem dX0_addText_22 : decode cX0_addText 22 = .ok (.goto (-20), 3) := by decide +kernel
theorem dX0_addText_25 : decode cX0_addText 25 = .ok (.return_, 1) := by decide +kernel
theorem dX0_cutTo_0 : decode cX0_cutTo 0 = .ok (.iload_n 1, 1) := by decide +kernel
theorem dX0_cutTo_1 : decode cX0_cutTo 1 = .ok (.ifCond .lt 11, 3) := by decide +kernel
theorem dX0_cutTo_4 : decode cX0_cutTo 4 = .ok (.iload_n 1, 1) := by decide +kernel
theorem dX0_cutTo_5 : decode cX0_cutTo 5 = .ok (.aload_n 0, 1) := by decide +kernel
theorem dX0_cutTo_6 : decode cX0_cutTo 6 = .ok (.getfield 15, 3) := by decide +kernel
theorem dX0_cutTo_9 : decode cX0_cutTo 9 = .ok (.if_icmp .le 5, 3) := by decide +kernel
theorem dX0_cutTo_12 : decode cX0_cutTo 12 = .ok (.iconst 0, 1) := by decide +kernel
theorem dX0_cutTo_13 : decode cX0_cutTo 13 = .ok (.ireturn, 1) := by decide +kernel
theorem dX0_cutTo_14 : decode cX0_cutTo 14 = .ok (.aload_n 0, 1) := by decide +kernel
theorem dX0_cutTo_15 : decode cX0_cutTo 15 = .ok (.iload_n 1, 1) := by decide +kernel
theorem dX0_cutTo_16 : decode cX0_cutTo 16 = .ok (.putfield 15, 3) := by decide +kernel
theorem dX0_cutTo_19 : decode cX0_cutTo 19 = .ok (.iconst 1, 1) := by decide +kernel
theorem dX0_cutTo_20 : decode cX0_cutTo 20 = .ok (.ireturn, 1) := by decide +kernel
theorem dX0_clear_0 : decode cX0_clear 0 = .ok (.aload_n 0, 1) := by decide +kernel
theorem dX0_clear_1 : decode cX0_clear 1 = .ok (.iconst 0, 1) := by decide +kernel
theorem dX0_clear_2 : decode cX0_clear 2 = .ok (.putfield 15, 3) := by decide +kernel
theorem dX0_clear_5 : decode cX0_clear 5 = .ok (.return_, 1) := by decide +kernel
theorem dX1_init_0 : decode cX1_init 0 = .ok (.aload_n 0, 1) := by decide +kernel
theorem dX1_init_1 : decode cX1_init 1 = .ok (.invokespecial 3, 3) := by decide +kernel
theorem dX1_init_4 : decode cX1_init 4 = .ok (.aload_n 0, 1) := by decide +kernel
theorem dX1_init_5 : decode cX1_init 5 = .ok (.bipush 8, 2) := by decide +kernel
theorem dX1_init_7 : decode cX1_init 7 = .ok (.anewarray 9, 3) := by decide +kernel
theorem dX1_init_10 : decode cX1_init 10 = .ok (.putfield 11, 3) := by decide +kernel
theorem dX1_init_13 : decode cX1_init 13 = .ok (.iconst 0, 1) := by decide +kernel
theorem dX1_init_14 : decode cX1_init 14 = .ok (.istore_n 1, 1) := by decide +kernel
theorem dX1_init_15 : decode cX1_init 15 = .ok (.iload_n 1, 1) := by decide +kernel
theorem dX1_init_16 : decode cX1_init 16 = .ok (.aload_n 0, 1) := by decide +kernel
theorem dX1_init_17 : decode cX1_init 17 = .ok (.getfield 11, 3) := by decide +kernel
theorem dX1_init_20 : decode cX1_init 20 = .ok (.arraylength, 1) := by decide +kernel
theorem dX1_init_21 : decode cX1_init 21 = .ok (.if_icmp .ge 22, 3) := by decide +kernel
theorem dX1_init_24 : decode cX1_init 24 = .ok (.aload_n 0, 1) := by decide +kernel
theorem dX1_init_25 : decode cX1_init 25 = .ok (.getfield 11, 3) := by decide +kernel
theorem dX1_init_28 : decode cX1_init 28 = .ok (.iload_n 1, 1) := by decide +kernel
theorem dX1_init_29 : decode cX1_init 29 = .ok (.new 9, 3) := by decide +kernel
theorem dX1_init_32 : decode cX1_init 32 = .ok (.dup, 1) := by decide +kernel
theorem dX1_init_33 : decode cX1_init 33 = .ok (.invokespecial 17, 3) := by decide +kernel
theorem dX1_init_36 : decode cX1_init 36 = .ok (.aastore, 1) := by decide +kernel
theorem dX1_init_37 : decode cX1_init 37 = .ok (.iinc 1 1, 3) := by decide +kernel
theorem dX1_init_40 : decode cX1_init 40 = .ok (.goto (-25), 3) := by decide +kernel
theorem dX1_init_43 : decode cX1_init 43 = .ok (.aload_n 0, 1) := by decide +kernel
theorem dX1_init_44 : decode cX1_init 44 = .ok (.iconst 0, 1) := by decide +kernel
theorem dX1_init_45 : decode cX1_init 45 = .ok (.putfield 18, 3) := by decide +kernel
theorem dX1_init_48 : decode cX1_init 48 = .ok (.aload_n 0, 1) := by decide +kernel
theorem dX1_init_49 : decode cX1_init 49 = .ok (.iconst 0, 1) := by decide +kernel
theorem dX1_init_50 : decode cX1_init 50 = .ok (.putfield 22, 3) := by decide +kernel
theorem dX1_init_53 : decode cX1_init 53 = .ok (.return_, 1) := by decide +kernel
theorem dX1_size_0 : decode cX1_size 0 = .ok (.aload_n 0, 1) := by decide +kernel
theorem dX1_size_1 : decode cX1_size 1 = .ok (.getfield 22, 3) := by decide +kernel
theorem dX1_size_4 : decode cX1_size 4 = .ok (.ireturn, 1) := by decide +kernel
theorem dX1_forget_0 : decode cX1_forget 0 = .ok (.aload_n 0, 1) := by decide +kernel
theorem dX1_forget_1 : decode cX1_forget 1 = .ok (.iconst 0, 1) := by decide +kernel
theorem dX1_forget_2 : decode cX1_forget 2 = .ok (.putfield 22, 3) := by decide +kernel
theorem dX1_forget_5 : decode cX1_forget 5 = .ok (.return_, 1) := by decide +kernel
theorem dX1_postAt_0 : decode cX1_postAt 0 = .ok (.aload_n 0, 1) := by decide +kernel
theorem dX1_postAt_1 : decode cX1_postAt 1 = .ok (.getfield 18, 3) := by decide +kernel
theorem dX1_postAt_4 : decode cX1_postAt 4 = .ok (.iload_n 1, 1) := by decide +kernel
theorem dX1_postAt_5 : decode cX1_postAt 5 = .ok (.iadd, 1) := by decide +kernel
theorem dX1_postAt_6 : decode cX1_postAt 6 = .ok (.bipush 8, 2) := by decide +kernel
theorem dX1_postAt_8 : decode cX1_postAt 8 = .ok (.irem, 1) := by decide +kernel
theorem dX1_postAt_9 : decode cX1_postAt 9 = .ok (.istore_n 2, 1) := by decide +kernel
theorem dX1_postAt_10 : decode cX1_postAt 10 = .ok (.iload_n 2, 1) := by decide +kernel
theorem dX1_postAt_11 : decode cX1_postAt 11 = .ok (.ifCond .lt 21, 3) := by decide +kernel
theorem dX1_postAt_14 : decode cX1_postAt 14 = .ok (.iload_n 2, 1) := by decide +kernel
theorem dX1_postAt_15 : decode cX1_postAt 15 = .ok (.aload_n 0, 1) := by decide +kernel
theorem dX1_postAt_16 : decode cX1_postAt 16 = .ok (.getfield 11, 3) := by decide +kernel
theorem dX1_postAt_19 : decode cX1_postAt 19 = .ok (.arraylength, 1) := by decide +kernel
theorem dX1_postAt_20 : decode cX1_postAt 20 = .ok (.if_icmp .ge 12, 3) := by decide +kernel
theorem dX1_postAt_23 : decode cX1_postAt 23 = .ok (.aload_n 0, 1) := by decide +kernel
theorem dX1_postAt_24 : decode cX1_postAt 24 = .ok (.getfield 11, 3) := by decide +kernel
theorem dX1_postAt_27 : decode cX1_postAt 27 = .ok (.iload_n 2, 1) := by decide +kernel
theorem dX1_postAt_28 : decode cX1_postAt 28 = .ok (.aaload, 1) := by decide +kernel
theorem dX1_postAt_29 : decode cX1_postAt 29 = .ok (.goto 4, 3) := by decide +kernel
theorem dX1_postAt_32 : decode cX1_postAt 32 = .ok (.aconst_null, 1) := by decide +kernel
theorem dX1_postAt_33 : decode cX1_postAt 33 = .ok (.areturn, 1) := by decide +kernel
theorem dX1_keep_0 : decode cX1_keep 0 = .ok (.aload_n 0, 1) := by decide +kernel
theorem dX1_keep_1 : decode cX1_keep 1 = .ok (.getfield 22, 3) := by decide +kernel
theorem dX1_keep_4 : decode cX1_keep 4 = .ok (.bipush 8, 2) := by decide +kernel
theorem dX1_keep_6 : decode cX1_keep 6 = .ok (.if_icmp .lt 22, 3) := by decide +kernel
theorem dX1_keep_9 : decode cX1_keep 9 = .ok (.aload_n 0, 1) := by decide +kernel
theorem dX1_keep_10 : decode cX1_keep 10 = .ok (.aload_n 0, 1) := by decide +kernel
theorem dX1_keep_11 : decode cX1_keep 11 = .ok (.getfield 18, 3) := by decide +kernel
theorem dX1_keep_14 : decode cX1_keep 14 = .ok (.iconst 1, 1) := by decide +kernel
theorem dX1_keep_15 : decode cX1_keep 15 = .ok (.iadd, 1) := by decide +kernel
theorem dX1_keep_16 : decode cX1_keep 16 = .ok (.bipush 8, 2) := by decide +kernel
theorem dX1_keep_18 : decode cX1_keep 18 = .ok (.irem, 1) := by decide +kernel
theorem dX1_keep_19 : decode cX1_keep 19 = .ok (.putfield 18, 3) := by decide +kernel
theorem dX1_keep_22 : decode cX1_keep 22 = .ok (.aload_n 0, 1) := by decide +kernel
theorem dX1_keep_23 : decode cX1_keep 23 = .ok (.bipush 7, 2) := by decide +kernel
theorem dX1_keep_25 : decode cX1_keep 25 = .ok (.putfield 22, 3) := by decide +kernel
theorem dX1_keep_28 : decode cX1_keep 28 = .ok (.aload_n 0, 1) := by decide +kernel
theorem dX1_keep_29 : decode cX1_keep 29 = .ok (.aload_n 0, 1) := by decide +kernel
theorem dX1_keep_30 : decode cX1_keep 30 = .ok (.getfield 22, 3) := by decide +kernel
theorem dX1_keep_33 : decode cX1_keep 33 = .ok (.invokevirtual 25, 3) := by decide +kernel
theorem dX1_keep_36 : decode cX1_keep 36 = .ok (.astore_n 2, 1) := by decide +kernel
theorem dX1_keep_37 : decode cX1_keep 37 = .ok (.aload_n 2, 1) := by decide +kernel
theorem dX1_keep_38 : decode cX1_keep 38 = .ok (.ifnull 18, 3) := by decide +kernel
theorem dX1_keep_41 : decode cX1_keep 41 = .ok (.aload_n 2, 1) := by decide +kernel
theorem dX1_keep_42 : decode cX1_keep 42 = .ok (.aload_n 1, 1) := by decide +kernel
theorem dX1_keep_43 : decode cX1_keep 43 = .ok (.invokevirtual 29, 3) := by decide +kernel
theorem dX1_keep_46 : decode cX1_keep 46 = .ok (.aload_n 0, 1) := by decide +kernel
theorem dX1_keep_47 : decode cX1_keep 47 = .ok (.dup, 1) := by decide +kernel
theorem dX1_keep_48 : decode cX1_keep 48 = .ok (.getfield 22, 3) := by decide +kernel
theorem dX1_keep_51 : decode cX1_keep 51 = .ok (.iconst 1, 1) := by decide +kernel
theorem dX1_keep_52 : decode cX1_keep 52 = .ok (.iadd, 1) := by decide +kernel
theorem dX1_keep_53 : decode cX1_keep 53 = .ok (.putfield 22, 3) := by decide +kernel
theorem dX1_keep_56 : decode cX1_keep 56 = .ok (.return_, 1) := by decide +kernel
theorem dX2_init_0 : decode cX2_init 0 = .ok (.aload_n 0, 1) := by decide +kernel
theorem dX2_init_1 : decode cX2_init 1 = .ok (.invokespecial 3, 3) := by decide +kernel
theorem dX2_init_4 : decode cX2_init 4 = .ok (.aload_n 0, 1) := by decide +kernel
theorem dX2_init_5 : decode cX2_init 5 = .ok (.new 9, 3) := by decide +kernel
theorem dX2_init_8 : decode cX2_init 8 = .ok (.dup, 1) := by decide +kernel
theorem dX2_init_9 : decode cX2_init 9 = .ok (.bipush 10, 2) := by decide +kernel
theorem dX2_init_11 : decode cX2_init 11 = .ok (.bipush 8, 2) := by decide +kernel
theorem dX2_init_13 : decode cX2_init 13 = .ok (.invokespecial 13, 3) := by decide +kernel
theorem dX2_init_16 : decode cX2_init 16 = .ok (.putfield 16, 3) := by decide +kernel
theorem dX2_init_19 : decode cX2_init 19 = .ok (.aload_n 0, 1) := by decide +kernel
theorem dX2_init_20 : decode cX2_init 20 = .ok (.new 9, 3) := by decide +kernel
theorem dX2_init_23 : decode cX2_init 23 = .ok (.dup, 1) := by decide +kernel
theorem dX2_init_24 : decode cX2_init 24 = .ok (.bipush 20, 2) := by decide +kernel
theorem dX2_init_26 : decode cX2_init 26 = .ok (.iconst 3, 1) := by decide +kernel
theorem dX2_init_27 : decode cX2_init 27 = .ok (.invokespecial 13, 3) := by decide +kernel
theorem dX2_init_30 : decode cX2_init 30 = .ok (.putfield 20, 3) := by decide +kernel
theorem dX2_init_33 : decode cX2_init 33 = .ok (.aload_n 0, 1) := by decide +kernel
theorem dX2_init_34 : decode cX2_init 34 = .ok (.new 9, 3) := by decide +kernel
theorem dX2_init_37 : decode cX2_init 37 = .ok (.dup, 1) := by decide +kernel
theorem dX2_init_38 : decode cX2_init 38 = .ok (.bipush 30, 2) := by decide +kernel
theorem dX2_init_40 : decode cX2_init 40 = .ok (.bipush 13, 2) := by decide +kernel
theorem dX2_init_42 : decode cX2_init 42 = .ok (.invokespecial 13, 3) := by decide +kernel
theorem dX2_init_45 : decode cX2_init 45 = .ok (.putfield 23, 3) := by decide +kernel
theorem dX2_init_48 : decode cX2_init 48 = .ok (.aload_n 0, 1) := by decide +kernel
theorem dX2_init_49 : decode cX2_init 49 = .ok (.new 9, 3) := by decide +kernel
theorem dX2_init_52 : decode cX2_init 52 = .ok (.dup, 1) := by decide +kernel
theorem dX2_init_53 : decode cX2_init 53 = .ok (.iconst 1, 1) := by decide +kernel
theorem dX2_init_54 : decode cX2_init 54 = .ok (.iconst 3, 1) := by decide +kernel
theorem dX2_init_55 : decode cX2_init 55 = .ok (.invokespecial 13, 3) := by decide +kernel
theorem dX2_init_58 : decode cX2_init 58 = .ok (.putfield 26, 3) := by decide +kernel
theorem dX2_init_61 : decode cX2_init 61 = .ok (.aload_n 0, 1) := by decide +kernel
theorem dX2_init_62 : decode cX2_init 62 = .ok (.new 9, 3) := by decide +kernel
theorem dX2_init_65 : decode cX2_init 65 = .ok (.dup, 1) := by decide +kernel
theorem dX2_init_66 : decode cX2_init 66 = .ok (.iconst 1, 1) := by decide +kernel
theorem dX2_init_67 : decode cX2_init 67 = .ok (.bipush 11, 2) := by decide +kernel
theorem dX2_init_69 : decode cX2_init 69 = .ok (.invokespecial 13, 3) := by decide +kernel
theorem dX2_init_72 : decode cX2_init 72 = .ok (.putfield 29, 3) := by decide +kernel
theorem dX2_init_75 : decode cX2_init 75 = .ok (.aload_n 0, 1) := by decide +kernel
theorem dX2_init_76 : decode cX2_init 76 = .ok (.new 32, 3) := by decide +kernel
theorem dX2_init_79 : decode cX2_init 79 = .ok (.dup, 1) := by decide +kernel
theorem dX2_init_80 : decode cX2_init 80 = .ok (.invokespecial 34, 3) := by decide +kernel
theorem dX2_init_83 : decode cX2_init 83 = .ok (.putfield 35, 3) := by decide +kernel
theorem dX2_init_86 : decode cX2_init 86 = .ok (.return_, 1) := by decide +kernel
theorem dX2_clear_0 : decode cX2_clear 0 = .ok (.aload_n 0, 1) := by decide +kernel
theorem dX2_clear_1 : decode cX2_clear 1 = .ok (.iconst 0, 1) := by decide +kernel
theorem dX2_clear_2 : decode cX2_clear 2 = .ok (.putfield 39, 3) := by decide +kernel
theorem dX2_clear_5 : decode cX2_clear 5 = .ok (.aload_n 0, 1) := by decide +kernel
theorem dX2_clear_6 : decode cX2_clear 6 = .ok (.iconst 0, 1) := by decide +kernel
theorem dX2_clear_7 : decode cX2_clear 7 = .ok (.putfield 43, 3) := by decide +kernel
theorem dX2_clear_10 : decode cX2_clear 10 = .ok (.aload_n 0, 1) := by decide +kernel
theorem dX2_clear_11 : decode cX2_clear 11 = .ok (.iconst 0, 1) := by decide +kernel
theorem dX2_clear_12 : decode cX2_clear 12 = .ok (.putfield 46, 3) := by decide +kernel
theorem dX2_clear_15 : decode cX2_clear 15 = .ok (.aload_n 0, 1) := by decide +kernel
theorem dX2_clear_16 : decode cX2_clear 16 = .ok (.iconst 0, 1) := by decide +kernel
theorem dX2_clear_17 : decode cX2_clear 17 = .ok (.putfield 49, 3) := by decide +kernel
theorem dX2_clear_20 : decode cX2_clear 20 = .ok (.aload_n 0, 1) := by decide +kernel
theorem dX2_clear_21 : decode cX2_clear 21 = .ok (.bipush 8, 2) := by decide +kernel
theorem dX2_clear_23 : decode cX2_clear 23 = .ok (.iconst 3, 1) := by decide +kernel
theorem dX2_clear_24 : decode cX2_clear 24 = .ok (.invokevirtual 52, 3) := by decide +kernel
theorem dX2_clear_27 : decode cX2_clear 27 = .ok (.aload_n 0, 1) := by decide +kernel
theorem dX2_clear_28 : decode cX2_clear 28 = .ok (.bipush 9, 2) := by decide +kernel
theorem dX2_clear_30 : decode cX2_clear 30 = .ok (.bipush 50, 2) := by decide +kernel
theorem dX2_clear_32 : decode cX2_clear 32 = .ok (.invokevirtual 52, 3) := by decide +kernel
theorem dX2_clear_35 : decode cX2_clear 35 = .ok (.aload_n 0, 1) := by decide +kernel
theorem dX2_clear_36 : decode cX2_clear 36 = .ok (.bipush 10, 2) := by decide +kernel
theorem dX2_clear_38 : decode cX2_clear 38 = .ok (.iconst 1, 1) := by decide +kernel
theorem dX2_clear_39 : decode cX2_clear 39 = .ok (.invokevirtual 52, 3) := by decide +kernel
theorem dX2_clear_42 : decode cX2_clear 42 = .ok (.aload_n 0, 1) := by decide +kernel
theorem dX2_clear_43 : decode cX2_clear 43 = .ok (.getfield 29, 3) := by decide +kernel
theorem dX2_clear_46 : decode cX2_clear 46 = .ok (.iconst 0, 1) := by decide +kernel
theorem dX2_clear_47 : decode cX2_clear 47 = .ok (.invokevirtual 55, 3) := by decide +kernel
theorem dX2_clear_50 : decode cX2_clear 50 = .ok (.return_, 1) := by decide +kernel
theorem dX2_copyFrom_0 : decode cX2_copyFrom 0 = .ok (.aload_n 0, 1) := by decide +kernel
theorem dX2_copyFrom_1 : decode cX2_copyFrom 1 = .ok (.aload_n 1, 1) := by decide +kernel
theorem dX2_copyFrom_2 : decode cX2_copyFrom 2 = .ok (.getfield 39, 3) := by decide +kernel
theorem dX2_copyFrom_5 : decode cX2_copyFrom 5 = .ok (.putfield 39, 3) := by decide +kernel
theorem dX2_copyFrom_8 : decode cX2_copyFrom 8 = .ok (.aload_n 0, 1) := by decide +kernel
theorem dX2_copyFrom_9 : decode cX2_copyFrom 9 = .ok (.aload_n 1, 1) := by decide +kernel
theorem dX2_copyFrom_10 : decode cX2_copyFrom 10 = .ok (.getfield 43, 3) := by decide +kernel
theorem dX2_copyFrom_13 : decode cX2_copyFrom 13 = .ok (.putfield 43, 3) := by decide +kernel
theorem dX2_copyFrom_16 : decode cX2_copyFrom 16 = .ok (.aload_n 0, 1) := by decide +kernel
theorem dX2_copyFrom_17 : decode cX2_copyFrom 17 = .ok (.aload_n 1, 1) := by decide +kernel
theorem dX2_copyFrom_18 : decode cX2_copyFrom 18 = .ok (.getfield 46, 3) := by decide +kernel
theorem dX2_copyFrom_21 : decode cX2_copyFrom 21 = .ok (.putfield 46, 3) := by decide +kernel
theorem dX2_copyFrom_24 : decode cX2_copyFrom 24 = .ok (.aload_n 0, 1) := by decide +kernel
theorem dX2_copyFrom_25 : decode cX2_copyFrom 25 = .ok (.aload_n 1, 1) := by decide +kernel
theorem dX2_copyFrom_26 : decode cX2_copyFrom 26 = .ok (.getfield 49, 3) := by decide +kernel
theorem dX2_copyFrom_29 : decode cX2_copyFrom 29 = .ok (.putfield 49, 3) := by decide +kernel
theorem dX2_copyFrom_32 : decode cX2_copyFrom 32 = .ok (.aload_n 0, 1) := by decide +kernel
theorem dX2_copyFrom_33 : decode cX2_copyFrom 33 = .ok (.getfield 16, 3) := by decide +kernel
theorem dX2_copyFrom_36 : decode cX2_copyFrom 36 = .ok (.aload_n 1, 1) := by decide +kernel
theorem dX2_copyFrom_37 : decode cX2_copyFrom 37 = .ok (.getfield 16, 3) := by decide +kernel
theorem dX2_copyFrom_40 : decode cX2_copyFrom 40 = .ok (.invokevirtual 59, 3) := by decide +kernel
theorem dX2_copyFrom_43 : decode cX2_copyFrom 43 = .ok (.aload_n 0, 1) := by decide +kernel
theorem dX2_copyFrom_44 : decode cX2_copyFrom 44 = .ok (.getfield 20, 3) := by decide +kernel
theorem dX2_copyFrom_47 : decode cX2_copyFrom 47 = .ok (.aload_n 1, 1) := by decide +kernel
theorem dX2_copyFrom_48 : decode cX2_copyFrom 48 = .ok (.getfield 20, 3) := by decide +kernel
theorem dX2_copyFrom_51 : decode cX2_copyFrom 51 = .ok (.invokevirtual 59, 3) := by decide +kernel
theorem dX2_copyFrom_54 : decode cX2_copyFrom 54 = .ok (.aload_n 0, 1) := by decide +kernel
theorem dX2_copyFrom_55 : decode cX2_copyFrom 55 = .ok (.getfield 23, 3) := by decide +kernel
theorem dX2_copyFrom_58 : decode cX2_copyFrom 58 = .ok (.aload_n 1, 1) := by decide +kernel
theorem dX2_copyFrom_59 : decode cX2_copyFrom 59 = .ok (.getfield 23, 3) := by decide +kernel
theorem dX2_copyFrom_62 : decode cX2_copyFrom 62 = .ok (.invokevirtual 59, 3) := by decide +kernel
theorem dX2_copyFrom_65 : decode cX2_copyFrom 65 = .ok (.aload_n 0, 1) := by decide +kernel
theorem dX2_copyFrom_66 : decode cX2_copyFrom 66 = .ok (.getfield 26, 3) := by decide +kernel
theorem dX2_copyFrom_69 : decode cX2_copyFrom 69 = .ok (.aload_n 1, 1) := by decide +kernel
theorem dX2_copyFrom_70 : decode cX2_copyFrom 70 = .ok (.getfield 26, 3) := by decide +kernel
theorem dX2_copyFrom_73 : decode cX2_copyFrom 73 = .ok (.invokevirtual 59, 3) := by decide +kernel
theorem dX2_copyFrom_76 : decode cX2_copyFrom 76 = .ok (.aload_n 0, 1) := by decide +kernel
theorem dX2_copyFrom_77 : decode cX2_copyFrom 77 = .ok (.getfield 29, 3) := by decide +kernel
theorem dX2_copyFrom_80 : decode cX2_copyFrom 80 = .ok (.aload_n 1, 1) := by decide +kernel
theorem dX2_copyFrom_81 : decode cX2_copyFrom 81 = .ok (.getfield 29, 3) := by decide +kernel
theorem dX2_copyFrom_84 : decode cX2_copyFrom 84 = .ok (.invokevirtual 59, 3) := by decide +kernel
theorem dX2_copyFrom_87 : decode cX2_copyFrom 87 = .ok (.aload_n 0, 1) := by decide +kernel
theorem dX2_copyFrom_88 : decode cX2_copyFrom 88 = .ok (.getfield 35, 3) := by decide +kernel
theorem dX2_copyFrom_91 : decode cX2_copyFrom 91 = .ok (.aload_n 1, 1) := by decide +kernel
theorem dX2_copyFrom_92 : decode cX2_copyFrom 92 = .ok (.getfield 35, 3) := by decide +kernel
theorem dX2_copyFrom_95 : decode cX2_copyFrom 95 = .ok (.invokevirtual 63, 3) := by decide +kernel
theorem dX2_copyFrom_98 : decode cX2_copyFrom 98 = .ok (.return_, 1) := by decide +kernel
theorem dX2_leastOf_0 : decode cX2_leastOf 0 = .ok (.iload_n 0, 1) := by decide +kernel
theorem dX2_leastOf_1 : decode cX2_leastOf 1 = .ok (.bipush 9, 2) := by decide +kernel
theorem dX2_leastOf_3 : decode cX2_leastOf 3 = .ok (.if_icmp .ne 7, 3) := by decide +kernel
theorem dX2_leastOf_6 : decode cX2_leastOf 6 = .ok (.iconst 1, 1) := by decide +kernel
theorem dX2_leastOf_7 : decode cX2_leastOf 7 = .ok (.goto 4, 3) := by decide +kernel
theorem dX2_leastOf_10 : decode cX2_leastOf 10 = .ok (.iconst 0, 1) := by decide +kernel
theorem dX2_leastOf_11 : decode cX2_leastOf 11 = .ok (.ireturn, 1) := by decide +kernel
theorem dX2_mostOf_0 : decode cX2_mostOf 0 = .ok (.iload_n 0, 1) := by decide +kernel
theorem dX2_mostOf_1 : decode cX2_mostOf 1 = .ok (.bipush 8, 2) := by decide +kernel
theorem dX2_mostOf_3 : decode cX2_mostOf 3 = .ok (.if_icmp .ne 6, 3) := by decide +kernel
theorem dX2_mostOf_6 : decode cX2_mostOf 6 = .ok (.bipush 9, 2) := by decide +kernel
theorem dX2_mostOf_8 : decode cX2_mostOf 8 = .ok (.ireturn, 1) := by decide +kernel
theorem dX2_mostOf_9 : decode cX2_mostOf 9 = .ok (.iload_n 0, 1) := by decide +kernel
theorem dX2_mostOf_10 : decode cX2_mostOf 10 = .ok (.bipush 9, 2) := by decide +kernel
theorem dX2_mostOf_12 : decode cX2_mostOf 12 = .ok (.if_icmp .ne 8, 3) := by decide +kernel
theorem dX2_mostOf_15 : decode cX2_mostOf 15 = .ok (.bipush 60, 2) := by decide +kernel
theorem dX2_mostOf_17 : decode cX2_mostOf 17 = .ok (.goto 4, 3) := by decide +kernel
theorem dX2_mostOf_20 : decode cX2_mostOf 20 = .ok (.iconst 3, 1) := by decide +kernel
theorem dX2_mostOf_21 : decode cX2_mostOf 21 = .ok (.ireturn, 1) := by decide +kernel
theorem dX2_setting_0 : decode cX2_setting 0 = .ok (.aload_n 0, 1) := by decide +kernel
theorem dX2_setting_1 : decode cX2_setting 1 = .ok (.getfield 26, 3) := by decide +kernel
theorem dX2_setting_4 : decode cX2_setting 4 = .ok (.iconst 0, 1) := by decide +kernel
theorem dX2_setting_5 : decode cX2_setting 5 = .ok (.iload_n 1, 1) := by decide +kernel
theorem dX2_setting_6 : decode cX2_setting 6 = .ok (.bipush 8, 2) := by decide +kernel
theorem dX2_setting_8 : decode cX2_setting 8 = .ok (.isub, 1) := by decide +kernel
theorem dX2_setting_9 : decode cX2_setting 9 = .ok (.invokevirtual 66, 3) := by decide +kernel
theorem dX2_setting_12 : decode cX2_setting 12 = .ok (.ireturn, 1) := by decide +kernel
theorem dX2_settle_0 : decode cX2_settle 0 = .ok (.aload_n 0, 1) := by decide +kernel
theorem dX2_settle_1 : decode cX2_settle 1 = .ok (.getfield 26, 3) := by decide +kernel
theorem dX2_settle_4 : decode cX2_settle 4 = .ok (.iconst 0, 1) := by decide +kernel
theorem dX2_settle_5 : decode cX2_settle 5 = .ok (.iload_n 1, 1) := by decide +kernel
theorem dX2_settle_6 : decode cX2_settle 6 = .ok (.bipush 8, 2) := by decide +kernel
theorem dX2_settle_8 : decode cX2_settle 8 = .ok (.isub, 1) := by decide +kernel
theorem dX2_settle_9 : decode cX2_settle 9 = .ok (.iload_n 2, 1) := by decide +kernel
theorem dX2_settle_10 : decode cX2_settle 10 = .ok (.invokevirtual 70, 3) := by decide +kernel
theorem dX2_settle_13 : decode cX2_settle 13 = .ok (.return_, 1) := by decide +kernel
theorem dX2_enter_0 : decode cX2_enter 0 = .ok (.aload_n 0, 1) := by decide +kernel
theorem dX2_enter_1 : decode cX2_enter 1 = .ok (.getfield 29, 3) := by decide +kernel
theorem dX2_enter_4 : decode cX2_enter 4 = .ok (.iconst 0, 1) := by decide +kernel
theorem dX2_enter_5 : decode cX2_enter 5 = .ok (.iload_n 1, 1) := by decide +kernel
theorem dX2_enter_6 : decode cX2_enter 6 = .ok (.iload_n 2, 1) := by decide +kernel
theorem dX2_enter_7 : decode cX2_enter 7 = .ok (.invokevirtual 74, 3) := by decide +kernel
theorem dX2_enter_10 : decode cX2_enter 10 = .ok (.return_, 1) := by decide +kernel
theorem dX2_addRoof_0 : decode cX2_addRoof 0 = .ok (.aload_n 0, 1) := by decide +kernel
theorem dX2_addRoof_1 : decode cX2_addRoof 1 = .ok (.getfield 43, 3) := by decide +kernel
theorem dX2_addRoof_4 : decode cX2_addRoof 4 = .ok (.istore 6, 2) := by decide +kernel
theorem dX2_addRoof_6 : decode cX2_addRoof 6 = .ok (.aload_n 0, 1) := by decide +kernel
theorem dX2_addRoof_7 : decode cX2_addRoof 7 = .ok (.getfield 16, 3) := by decide +kernel
theorem dX2_addRoof_10 : decode cX2_addRoof 10 = .ok (.iload 6, 2) := by decide +kernel
theorem dX2_addRoof_12 : decode cX2_addRoof 12 = .ok (.iconst 5, 1) := by decide +kernel
theorem dX2_addRoof_13 : decode cX2_addRoof 13 = .ok (.iload_n 1, 1) := by decide +kernel
theorem dX2_addRoof_14 : decode cX2_addRoof 14 = .ok (.invokevirtual 70, 3) := by decide +kernel
theorem dX2_addRoof_17 : decode cX2_addRoof 17 = .ok (.aload_n 0, 1) := by decide +kernel
theorem dX2_addRoof_18 : decode cX2_addRoof 18 = .ok (.getfield 16, 3) := by decide +kernel
theorem dX2_addRoof_21 : decode cX2_addRoof 21 = .ok (.iload 6, 2) := by decide +kernel
theorem dX2_addRoof_23 : decode cX2_addRoof 23 = .ok (.iconst 0, 1) := by decide +kernel
theorem dX2_addRoof_24 : decode cX2_addRoof 24 = .ok (.iload_n 2, 1) := by decide +kernel
theorem dX2_addRoof_25 : decode cX2_addRoof 25 = .ok (.invokevirtual 70, 3) := by decide +kernel
theorem dX2_addRoof_28 : decode cX2_addRoof 28 = .ok (.aload_n 0, 1) := by decide +kernel
theorem dX2_addRoof_29 : decode cX2_addRoof 29 = .ok (.getfield 16, 3) := by decide +kernel
theorem dX2_addRoof_32 : decode cX2_addRoof 32 = .ok (.iload 6, 2) := by decide +kernel
theorem dX2_addRoof_34 : decode cX2_addRoof 34 = .ok (.iconst 1, 1) := by decide +kernel
theorem dX2_addRoof_35 : decode cX2_addRoof 35 = .ok (.iload_n 3, 1) := by decide +kernel
theorem dX2_addRoof_36 : decode cX2_addRoof 36 = .ok (.invokevirtual 70, 3) := by decide +kernel
theorem dX2_addRoof_39 : decode cX2_addRoof 39 = .ok (.aload_n 0, 1) := by decide +kernel
theorem dX2_addRoof_40 : decode cX2_addRoof 40 = .ok (.getfield 16, 3) := by decide +kernel
theorem dX2_addRoof_43 : decode cX2_addRoof 43 = .ok (.iload 6, 2) := by decide +kernel
theorem dX2_addRoof_45 : decode cX2_addRoof 45 = .ok (.iconst 2, 1) := by decide +kernel
theorem dX2_addRoof_46 : decode cX2_addRoof 46 = .ok (.iload 4, 2) := by decide +kernel
theorem dX2_addRoof_48 : decode cX2_addRoof 48 = .ok (.invokevirtual 70, 3) := by decide +kernel
theorem dX2_addRoof_51 : decode cX2_addRoof 51 = .ok (.aload_n 0, 1) := by decide +kernel
theorem dX2_addRoof_52 : decode cX2_addRoof 52 = .ok (.getfield 16, 3) := by decide +kernel
theorem dX2_addRoof_55 : decode cX2_addRoof 55 = .ok (.iload 6, 2) := by decide +kernel
theorem dX2_addRoof_57 : decode cX2_addRoof 57 = .ok (.iconst 3, 1) := by decide +kernel
theorem dX2_addRoof_58 : decode cX2_addRoof 58 = .ok (.iload 5, 2) := by decide +kernel
theorem dX2_addRoof_60 : decode cX2_addRoof 60 = .ok (.invokevirtual 70, 3) := by decide +kernel
theorem dX2_addRoof_63 : decode cX2_addRoof 63 = .ok (.aload_n 0, 1) := by decide +kernel
theorem dX2_addRoof_64 : decode cX2_addRoof 64 = .ok (.getfield 16, 3) := by decide +kernel
theorem dX2_addRoof_67 : decode cX2_addRoof 67 = .ok (.iload 6, 2) := by decide +kernel
theorem dX2_addRoof_69 : decode cX2_addRoof 69 = .ok (.bipush 6, 2) := by decide +kernel
theorem dX2_addRoof_71 : decode cX2_addRoof 71 = .ok (.iload 5, 2) := by decide +kernel
theorem dX2_addRoof_73 : decode cX2_addRoof 73 = .ok (.invokevirtual 70, 3) := by decide +kernel
theorem dX2_addRoof_76 : decode cX2_addRoof 76 = .ok (.aload_n 0, 1) := by decide +kernel
theorem dX2_addRoof_77 : decode cX2_addRoof 77 = .ok (.getfield 16, 3) := by decide +kernel
theorem dX2_addRoof_80 : decode cX2_addRoof 80 = .ok (.iload 6, 2) := by decide +kernel
theorem dX2_addRoof_82 : decode cX2_addRoof 82 = .ok (.iconst 4, 1) := by decide +kernel
theorem dX2_addRoof_83 : decode cX2_addRoof 83 = .ok (.iconst 0, 1) := by decide +kernel
theorem dX2_addRoof_84 : decode cX2_addRoof 84 = .ok (.invokevirtual 70, 3) := by decide +kernel
theorem dX2_addRoof_87 : decode cX2_addRoof 87 = .ok (.aload_n 0, 1) := by decide +kernel
theorem dX2_addRoof_88 : decode cX2_addRoof 88 = .ok (.getfield 16, 3) := by decide +kernel
theorem dX2_addRoof_91 : decode cX2_addRoof 91 = .ok (.iload 6, 2) := by decide +kernel
theorem dX2_addRoof_93 : decode cX2_addRoof 93 = .ok (.bipush 7, 2) := by decide +kernel
theorem dX2_addRoof_95 : decode cX2_addRoof 95 = .ok (.iconst 0, 1) := by decide +kernel
theorem dX2_addRoof_96 : decode cX2_addRoof 96 = .ok (.invokevirtual 70, 3) := by decide +kernel
theorem dX2_addRoof_99 : decode cX2_addRoof 99 = .ok (.aload_n 0, 1) := by decide +kernel
theorem dX2_addRoof_100 : decode cX2_addRoof 100 = .ok (.dup, 1) := by decide +kernel
theorem dX2_addRoof_101 : decode cX2_addRoof 101 = .ok (.getfield 43, 3) := by decide +kernel
theorem dX2_addRoof_104 : decode cX2_addRoof 104 = .ok (.iconst 1, 1) := by decide +kernel
theorem dX2_addRoof_105 : decode cX2_addRoof 105 = .ok (.iadd, 1) := by decide +kernel
theorem dX2_addRoof_106 : decode cX2_addRoof 106 = .ok (.putfield 43, 3) := by decide +kernel
theorem dX2_addRoof_109 : decode cX2_addRoof 109 = .ok (.return_, 1) := by decide +kernel
theorem dX2_addWay_0 : decode cX2_addWay 0 = .ok (.aload_n 0, 1) := by decide +kernel
theorem dX2_addWay_1 : decode cX2_addWay 1 = .ok (.getfield 20, 3) := by decide +kernel
theorem dX2_addWay_4 : decode cX2_addWay 4 = .ok (.aload_n 0, 1) := by decide +kernel
theorem dX2_addWay_5 : decode cX2_addWay 5 = .ok (.getfield 46, 3) := by decide +kernel
theorem dX2_addWay_8 : decode cX2_addWay 8 = .ok (.iconst 0, 1) := by decide +kernel
theorem dX2_addWay_9 : decode cX2_addWay 9 = .ok (.iload_n 1, 1) := by decide +kernel
theorem dX2_addWay_10 : decode cX2_addWay 10 = .ok (.invokevirtual 70, 3) := by decide +kernel
theorem dX2_addWay_13 : decode cX2_addWay 13 = .ok (.aload_n 0, 1) := by decide +kernel
theorem dX2_addWay_14 : decode cX2_addWay 14 = .ok (.getfield 20, 3) := by decide +kernel
theorem dX2_addWay_17 : decode cX2_addWay 17 = .ok (.aload_n 0, 1) := by decide +kernel
theorem dX2_addWay_18 : decode cX2_addWay 18 = .ok (.getfield 46, 3) := by decide +kernel
theorem dX2_addWay_21 : decode cX2_addWay 21 = .ok (.iconst 1, 1) := by decide +kernel
theorem dX2_addWay_22 : decode cX2_addWay 22 = .ok (.iload_n 2, 1) := by decide +kernel
theorem dX2_addWay_23 : decode cX2_addWay 23 = .ok (.invokevirtual 70, 3) := by decide +kernel
theorem dX2_addWay_26 : decode cX2_addWay 26 = .ok (.aload_n 0, 1) := by decide +kernel
theorem dX2_addWay_27 : decode cX2_addWay 27 = .ok (.getfield 20, 3) := by decide +kernel
theorem dX2_addWay_30 : decode cX2_addWay 30 = .ok (.aload_n 0, 1) := by decide +kernel
theorem dX2_addWay_31 : decode cX2_addWay 31 = .ok (.getfield 46, 3) := by decide +kernel
theorem dX2_addWay_34 : decode cX2_addWay 34 = .ok (.iconst 2, 1) := by decide +kernel
theorem dX2_addWay_35 : decode cX2_addWay 35 = .ok (.iload_n 3, 1) := by decide +kernel
theorem dX2_addWay_36 : decode cX2_addWay 36 = .ok (.invokevirtual 70, 3) := by decide +kernel
theorem dX2_addWay_39 : decode cX2_addWay 39 = .ok (.aload_n 0, 1) := by decide +kernel
theorem dX2_addWay_40 : decode cX2_addWay 40 = .ok (.dup, 1) := by decide +kernel
theorem dX2_addWay_41 : decode cX2_addWay 41 = .ok (.getfield 46, 3) := by decide +kernel
theorem dX2_addWay_44 : decode cX2_addWay 44 = .ok (.iconst 1, 1) := by decide +kernel
theorem dX2_addWay_45 : decode cX2_addWay 45 = .ok (.iadd, 1) := by decide +kernel
theorem dX2_addWay_46 : decode cX2_addWay 46 = .ok (.putfield 46, 3) := by decide +kernel
theorem dX2_addWay_49 : decode cX2_addWay 49 = .ok (.return_, 1) := by decide +kernel
theorem dX2_addTune_0 : decode cX2_addTune 0 = .ok (.aload_n 0, 1) := by decide +kernel
theorem dX2_addTune_1 : decode cX2_addTune 1 = .ok (.getfield 49, 3) := by decide +kernel
theorem dX2_addTune_4 : decode cX2_addTune 4 = .ok (.istore 7, 2) := by decide +kernel
theorem dX2_addTune_6 : decode cX2_addTune 6 = .ok (.aload_n 0, 1) := by decide +kernel
theorem dX2_addTune_7 : decode cX2_addTune 7 = .ok (.getfield 23, 3) := by decide +kernel
theorem dX2_addTune_10 : decode cX2_addTune 10 = .ok (.iload 7, 2) := by decide +kernel
theorem dX2_addTune_12 : decode cX2_addTune 12 = .ok (.iconst 0, 1) := by decide +kernel
theorem dX2_addTune_13 : decode cX2_addTune 13 = .ok (.iload_n 1, 1) := by decide +kernel
theorem dX2_addTune_14 : decode cX2_addTune 14 = .ok (.invokevirtual 70, 3) := by decide +kernel
theorem dX2_addTune_17 : decode cX2_addTune 17 = .ok (.aload_n 0, 1) := by decide +kernel
theorem dX2_addTune_18 : decode cX2_addTune 18 = .ok (.getfield 23, 3) := by decide +kernel
theorem dX2_addTune_21 : decode cX2_addTune 21 = .ok (.iload 7, 2) := by decide +kernel
theorem dX2_addTune_23 : decode cX2_addTune 23 = .ok (.iconst 1, 1) := by decide +kernel
theorem dX2_addTune_24 : decode cX2_addTune 24 = .ok (.iload_n 2, 1) := by decide +kernel
theorem dX2_addTune_25 : decode cX2_addTune 25 = .ok (.invokevirtual 70, 3) := by decide +kernel
theorem dX2_addTune_28 : decode cX2_addTune 28 = .ok (.aload_n 0, 1) := by decide +kernel
theorem dX2_addTune_29 : decode cX2_addTune 29 = .ok (.getfield 23, 3) := by decide +kernel
theorem dX2_addTune_32 : decode cX2_addTune 32 = .ok (.iload 7, 2) := by decide +kernel
theorem dX2_addTune_34 : decode cX2_addTune 34 = .ok (.iconst 2, 1) := by decide +kernel
theorem dX2_addTune_35 : decode cX2_addTune 35 = .ok (.iload_n 3, 1) := by decide +kernel
theorem dX2_addTune_36 : decode cX2_addTune 36 = .ok (.invokevirtual 70, 3) := by decide +kernel
theorem dX2_addTune_39 : decode cX2_addTune 39 = .ok (.aload_n 0, 1) := by decide +kernel
theorem dX2_addTune_40 : decode cX2_addTune 40 = .ok (.getfield 23, 3) := by decide +kernel
theorem dX2_addTune_43 : decode cX2_addTune 43 = .ok (.iload 7, 2) := by decide +kernel
theorem dX2_addTune_45 : decode cX2_addTune 45 = .ok (.iconst 3, 1) := by decide +kernel
theorem dX2_addTune_46 : decode cX2_addTune 46 = .ok (.iconst 0, 1) := by decide +kernel
theorem dX2_addTune_47 : decode cX2_addTune 47 = .ok (.invokevirtual 70, 3) := by decide +kernel
theorem dX2_addTune_50 : decode cX2_addTune 50 = .ok (.aload_n 0, 1) := by decide +kernel
theorem dX2_addTune_51 : decode cX2_addTune 51 = .ok (.getfield 23, 3) := by decide +kernel
theorem dX2_addTune_54 : decode cX2_addTune 54 = .ok (.iload 7, 2) := by decide +kernel
theorem dX2_addTune_56 : decode cX2_addTune 56 = .ok (.iconst 4, 1) := by decide +kernel
theorem dX2_addTune_57 : decode cX2_addTune 57 = .ok (.iload_n 1, 1) := by decide +kernel
theorem dX2_addTune_58 : decode cX2_addTune 58 = .ok (.invokevirtual 70, 3) := by decide +kernel
theorem dX2_addTune_61 : decode cX2_addTune 61 = .ok (.aload_n 0, 1) := by decide +kernel
theorem dX2_addTune_62 : decode cX2_addTune 62 = .ok (.getfield 23, 3) := by decide +kernel
theorem dX2_addTune_65 : decode cX2_addTune 65 = .ok (.iload 7, 2) := by decide +kernel
theorem dX2_addTune_67 : decode cX2_addTune 67 = .ok (.iconst 5, 1) := by decide +kernel
theorem dX2_addTune_68 : decode cX2_addTune 68 = .ok (.iconst (-1), 1) := by decide +kernel
theorem dX2_addTune_69 : decode cX2_addTune 69 = .ok (.invokevirtual 70, 3) := by decide +kernel
theorem dX2_addTune_72 : decode cX2_addTune 72 = .ok (.aload_n 0, 1) := by decide +kernel
theorem dX2_addTune_73 : decode cX2_addTune 73 = .ok (.getfield 23, 3) := by decide +kernel
theorem dX2_addTune_76 : decode cX2_addTune 76 = .ok (.iload 7, 2) := by decide +kernel
theorem dX2_addTune_78 : decode cX2_addTune 78 = .ok (.bipush 6, 2) := by decide +kernel
theorem dX2_addTune_80 : decode cX2_addTune 80 = .ok (.iload 5, 2) := by decide +kernel
theorem dX2_addTune_82 : decode cX2_addTune 82 = .ok (.ifCond .eq 7, 3) := by decide +kernel
theorem dX2_addTune_85 : decode cX2_addTune 85 = .ok (.iconst 1, 1) := by decide +kernel
theorem dX2_addTune_86 : decode cX2_addTune 86 = .ok (.goto 4, 3) := by decide +kernel
theorem dX2_addTune_89 : decode cX2_addTune 89 = .ok (.iconst 0, 1) := by decide +kernel
theorem dX2_addTune_90 : decode cX2_addTune 90 = .ok (.invokevirtual 70, 3) := by decide +kernel
theorem dX2_addTune_93 : decode cX2_addTune 93 = .ok (.aload_n 0, 1) := by decide +kernel
theorem dX2_addTune_94 : decode cX2_addTune 94 = .ok (.getfield 23, 3) := by decide +kernel
theorem dX2_addTune_97 : decode cX2_addTune 97 = .ok (.iload 7, 2) := by decide +kernel
theorem dX2_addTune_99 : decode cX2_addTune 99 = .ok (.bipush 7, 2) := by decide +kernel
theorem dX2_addTune_101 : decode cX2_addTune 101 = .ok (.iload 6, 2) := by decide +kernel
theorem dX2_addTune_103 : decode cX2_addTune 103 = .ok (.ifCond .eq 7, 3) := by decide +kernel
theorem dX2_addTune_106 : decode cX2_addTune 106 = .ok (.iconst 1, 1) := by decide +kernel
theorem dX2_addTune_107 : decode cX2_addTune 107 = .ok (.goto 4, 3) := by decide +kernel
theorem dX2_addTune_110 : decode cX2_addTune 110 = .ok (.iconst 0, 1) := by decide +kernel
theorem dX2_addTune_111 : decode cX2_addTune 111 = .ok (.invokevirtual 70, 3) := by decide +kernel
theorem dX2_addTune_114 : decode cX2_addTune 114 = .ok (.aload_n 0, 1) := by decide +kernel
theorem dX2_addTune_115 : decode cX2_addTune 115 = .ok (.getfield 23, 3) := by decide +kernel
theorem dX2_addTune_118 : decode cX2_addTune 118 = .ok (.iload 7, 2) := by decide +kernel
theorem dX2_addTune_120 : decode cX2_addTune 120 = .ok (.bipush 8, 2) := by decide +kernel
theorem dX2_addTune_122 : decode cX2_addTune 122 = .ok (.iconst 0, 1) := by decide +kernel
theorem dX2_addTune_123 : decode cX2_addTune 123 = .ok (.invokevirtual 70, 3) := by decide +kernel
theorem dX2_addTune_126 : decode cX2_addTune 126 = .ok (.aload_n 0, 1) := by decide +kernel
theorem dX2_addTune_127 : decode cX2_addTune 127 = .ok (.getfield 23, 3) := by decide +kernel
theorem dX2_addTune_130 : decode cX2_addTune 130 = .ok (.iload 7, 2) := by decide +kernel
theorem dX2_addTune_132 : decode cX2_addTune 132 = .ok (.bipush 9, 2) := by decide +kernel
theorem dX2_addTune_134 : decode cX2_addTune 134 = .ok (.iload 4, 2) := by decide +kernel
theorem dX2_addTune_136 : decode cX2_addTune 136 = .ok (.invokevirtual 70, 3) := by decide +kernel
theorem dX2_addTune_139 : decode cX2_addTune 139 = .ok (.aload_n 0, 1) := by decide +kernel
theorem dX2_addTune_140 : decode cX2_addTune 140 = .ok (.getfield 23, 3) := by decide +kernel
theorem dX2_addTune_143 : decode cX2_addTune 143 = .ok (.iload 7, 2) := by decide +kernel
theorem dX2_addTune_145 : decode cX2_addTune 145 = .ok (.bipush 10, 2) := by decide +kernel
theorem dX2_addTune_147 : decode cX2_addTune 147 = .ok (.iload 4, 2) := by decide +kernel
theorem dX2_addTune_149 : decode cX2_addTune 149 = .ok (.invokevirtual 70, 3) := by decide +kernel
theorem dX2_addTune_152 : decode cX2_addTune 152 = .ok (.aload_n 0, 1) := by decide +kernel
theorem dX2_addTune_153 : decode cX2_addTune 153 = .ok (.getfield 23, 3) := by decide +kernel
theorem dX2_addTune_156 : decode cX2_addTune 156 = .ok (.iload 7, 2) := by decide +kernel
theorem dX2_addTune_158 : decode cX2_addTune 158 = .ok (.bipush 11, 2) := by decide +kernel
theorem dX2_addTune_160 : decode cX2_addTune 160 = .ok (.iconst 0, 1) := by decide +kernel
theorem dX2_addTune_161 : decode cX2_addTune 161 = .ok (.invokevirtual 70, 3) := by decide +kernel
theorem dX2_addTune_164 : decode cX2_addTune 164 = .ok (.aload_n 0, 1) := by decide +kernel
theorem dX2_addTune_165 : decode cX2_addTune 165 = .ok (.getfield 23, 3) := by decide +kernel
theorem dX2_addTune_168 : decode cX2_addTune 168 = .ok (.iload 7, 2) := by decide +kernel
theorem dX2_addTune_170 : decode cX2_addTune 170 = .ok (.bipush 12, 2) := by decide +kernel
theorem dX2_addTune_172 : decode cX2_addTune 172 = .ok (.iconst 0, 1) := by decide +kernel
theorem dX2_addTune_173 : decode cX2_addTune 173 = .ok (.invokevirtual 70, 3) := by decide +kernel
theorem dX2_addTune_176 : decode cX2_addTune 176 = .ok (.aload_n 0, 1) := by decide +kernel
theorem dX2_addTune_177 : decode cX2_addTune 177 = .ok (.dup, 1) := by decide +kernel
theorem dX2_addTune_178 : decode cX2_addTune 178 = .ok (.getfield 49, 3) := by decide +kernel
theorem dX2_addTune_181 : decode cX2_addTune 181 = .ok (.iconst 1, 1) := by decide +kernel
theorem dX2_addTune_182 : decode cX2_addTune 182 = .ok (.iadd, 1) := by decide +kernel
theorem dX2_addTune_183 : decode cX2_addTune 183 = .ok (.putfield 49, 3) := by decide +kernel
theorem dX2_addTune_186 : decode cX2_addTune 186 = .ok (.aload_n 0, 1) := by decide +kernel
theorem dX2_addTune_187 : decode cX2_addTune 187 = .ok (.iconst 1, 1) := by decide +kernel
theorem dX2_addTune_188 : decode cX2_addTune 188 = .ok (.iconst 1, 1) := by decide +kernel
theorem dX2_addTune_189 : decode cX2_addTune 189 = .ok (.invokevirtual 77, 3) := by decide +kernel
theorem dX2_addTune_192 : decode cX2_addTune 192 = .ok (.iload 7, 2) := by decide +kernel
theorem dX2_addTune_194 : decode cX2_addTune 194 = .ok (.ireturn, 1) := by decide +kernel
theorem dX2_hasTimeFor_0 : decode cX2_hasTimeFor 0 = .ok (.aload_n 0, 1) := by decide +kernel
theorem dX2_hasTimeFor_1 : decode cX2_hasTimeFor 1 = .ok (.getfield 39, 3) := by decide +kernel
theorem dX2_hasTimeFor_4 : decode cX2_hasTimeFor 4 = .ok (.iload_n 1, 1) := by decide +kernel
theorem dX2_hasTimeFor_5 : decode cX2_hasTimeFor 5 = .ok (.iadd, 1) := by decide +kernel
theorem dX2_hasTimeFor_6 : decode cX2_hasTimeFor 6 = .ok (.sipush 9999, 3) := by decide +kernel
theorem dX2_hasTimeFor_9 : decode cX2_hasTimeFor 9 = .ok (.if_icmp .gt 7, 3) := by decide +kernel
theorem dX2_hasTimeFor_12 : decode cX2_hasTimeFor 12 = .ok (.iconst 1, 1) := by decide +kernel
theorem dX2_hasTimeFor_13 : decode cX2_hasTimeFor 13 = .ok (.goto 4, 3) := by decide +kernel
theorem dX2_hasTimeFor_16 : decode cX2_hasTimeFor 16 = .ok (.iconst 0, 1) := by decide +kernel
theorem dX2_hasTimeFor_17 : decode cX2_hasTimeFor 17 = .ok (.ireturn, 1) := by decide +kernel
theorem dX2_hasRoomFor_0 : decode cX2_hasRoomFor 0 = .ok (.aload_n 0, 1) := by decide +kernel
theorem dX2_hasRoomFor_1 : decode cX2_hasRoomFor 1 = .ok (.getfield 16, 3) := by decide +kernel
theorem dX2_hasRoomFor_4 : decode cX2_hasRoomFor 4 = .ok (.iload_n 1, 1) := by decide +kernel
theorem dX2_hasRoomFor_5 : decode cX2_hasRoomFor 5 = .ok (.iconst 3, 1) := by decide +kernel
theorem dX2_hasRoomFor_6 : decode cX2_hasRoomFor 6 = .ok (.invokevirtual 66, 3) := by decide +kernel
theorem dX2_hasRoomFor_9 : decode cX2_hasRoomFor 9 = .ok (.iload_n 2, 1) := by decide +kernel
theorem dX2_hasRoomFor_10 : decode cX2_hasRoomFor 10 = .ok (.iadd, 1) := by decide +kernel
theorem dX2_hasRoomFor_11 : decode cX2_hasRoomFor 11 = .ok (.sipush 9999, 3) := by decide +kernel
theorem dX2_hasRoomFor_14 : decode cX2_hasRoomFor 14 = .ok (.if_icmp .gt 7, 3) := by decide +kernel
theorem dX2_hasRoomFor_17 : decode cX2_hasRoomFor 17 = .ok (.iconst 1, 1) := by decide +kernel
theorem dX2_hasRoomFor_18 : decode cX2_hasRoomFor 18 = .ok (.goto 4, 3) := by decide +kernel
theorem dX2_hasRoomFor_21 : decode cX2_hasRoomFor 21 = .ok (.iconst 0, 1) := by decide +kernel
theorem dX2_hasRoomFor_22 : decode cX2_hasRoomFor 22 = .ok (.ireturn, 1) := by decide +kernel
theorem dX2_takeCoins_0 : decode cX2_takeCoins 0 = .ok (.aload_n 0, 1) := by decide +kernel
theorem dX2_takeCoins_1 : decode cX2_takeCoins 1 = .ok (.getfield 16, 3) := by decide +kernel
theorem dX2_takeCoins_4 : decode cX2_takeCoins 4 = .ok (.iload_n 1, 1) := by decide +kernel
theorem dX2_takeCoins_5 : decode cX2_takeCoins 5 = .ok (.iconst 3, 1) := by decide +kernel
theorem dX2_takeCoins_6 : decode cX2_takeCoins 6 = .ok (.iload_n 2, 1) := by decide +kernel
theorem dX2_takeCoins_7 : decode cX2_takeCoins 7 = .ok (.invokevirtual 74, 3) := by decide +kernel
theorem dX2_takeCoins_10 : decode cX2_takeCoins 10 = .ok (.aload_n 0, 1) := by decide +kernel
theorem dX2_takeCoins_11 : decode cX2_takeCoins 11 = .ok (.bipush 10, 2) := by decide +kernel
theorem dX2_takeCoins_13 : decode cX2_takeCoins 13 = .ok (.iload_n 2, 1) := by decide +kernel
theorem dX2_takeCoins_14 : decode cX2_takeCoins 14 = .ok (.invokevirtual 77, 3) := by decide +kernel
theorem dX2_takeCoins_17 : decode cX2_takeCoins 17 = .ok (.return_, 1) := by decide +kernel
theorem dX2_cutWay_0 : decode cX2_cutWay 0 = .ok (.aload_n 0, 1) := by decide +kernel
theorem dX2_cutWay_1 : decode cX2_cutWay 1 = .ok (.iload_n 1, 1) := by decide +kernel
theorem dX2_cutWay_2 : decode cX2_cutWay 2 = .ok (.iload_n 2, 1) := by decide +kernel
theorem dX2_cutWay_3 : decode cX2_cutWay 3 = .ok (.invokevirtual 80, 3) := by decide +kernel
theorem dX2_cutWay_6 : decode cX2_cutWay 6 = .ok (.istore_n 3, 1) := by decide +kernel
theorem dX2_cutWay_7 : decode cX2_cutWay 7 = .ok (.iload_n 3, 1) := by decide +kernel
theorem dX2_cutWay_8 : decode cX2_cutWay 8 = .ok (.iconst (-1), 1) := by decide +kernel
theorem dX2_cutWay_9 : decode cX2_cutWay 9 = .ok (.if_icmp .ne 5, 3) := by decide +kernel
theorem dX2_cutWay_12 : decode cX2_cutWay 12 = .ok (.iconst 0, 1) := by decide +kernel
theorem dX2_cutWay_13 : decode cX2_cutWay 13 = .ok (.ireturn, 1) := by decide +kernel
theorem dX2_cutWay_14 : decode cX2_cutWay 14 = .ok (.aload_n 0, 1) := by decide +kernel
theorem dX2_cutWay_15 : decode cX2_cutWay 15 = .ok (.getfield 20, 3) := by decide +kernel
theorem dX2_cutWay_18 : decode cX2_cutWay 18 = .ok (.iload_n 3, 1) := by decide +kernel
theorem dX2_cutWay_19 : decode cX2_cutWay 19 = .ok (.invokevirtual 83, 3) := by decide +kernel
theorem dX2_cutWay_22 : decode cX2_cutWay 22 = .ok (.aload_n 0, 1) := by decide +kernel
theorem dX2_cutWay_23 : decode cX2_cutWay 23 = .ok (.dup, 1) := by decide +kernel
theorem dX2_cutWay_24 : decode cX2_cutWay 24 = .ok (.getfield 46, 3) := by decide +kernel
theorem dX2_cutWay_27 : decode cX2_cutWay 27 = .ok (.iconst 1, 1) := by decide +kernel
theorem dX2_cutWay_28 : decode cX2_cutWay 28 = .ok (.isub, 1) := by decide +kernel
theorem dX2_cutWay_29 : decode cX2_cutWay 29 = .ok (.putfield 46, 3) := by decide +kernel
theorem dX2_cutWay_32 : decode cX2_cutWay 32 = .ok (.aload_n 0, 1) := by decide +kernel
theorem dX2_cutWay_33 : decode cX2_cutWay 33 = .ok (.getfield 35, 3) := by decide +kernel
theorem dX2_cutWay_36 : decode cX2_cutWay 36 = .ok (.aload_n 0, 1) := by decide +kernel
theorem dX2_cutWay_37 : decode cX2_cutWay 37 = .ok (.invokevirtual 86, 3) := by decide +kernel
theorem dX2_cutWay_40 : decode cX2_cutWay 40 = .ok (.iconst 1, 1) := by decide +kernel
theorem dX2_cutWay_41 : decode cX2_cutWay 41 = .ok (.ireturn, 1) := by decide +kernel
theorem dX2_roofNamed_0 : decode cX2_roofNamed 0 = .ok (.iconst 0, 1) := by decide +kernel
theorem dX2_roofNamed_1 : decode cX2_roofNamed 1 = .ok (.istore_n 2, 1) := by decide +kernel
theorem dX2_roofNamed_2 : decode cX2_roofNamed 2 = .ok (.iload_n 2, 1) := by decide +kernel
theorem dX2_roofNamed_3 : decode cX2_roofNamed 3 = .ok (.aload_n 0, 1) := by decide +kernel
theorem dX2_roofNamed_4 : decode cX2_roofNamed 4 = .ok (.getfield 43, 3) := by decide +kernel
theorem dX2_roofNamed_7 : decode cX2_roofNamed 7 = .ok (.if_icmp .ge 24, 3) := by decide +kernel
theorem dX2_roofNamed_10 : decode cX2_roofNamed 10 = .ok (.aload_n 0, 1) := by decide +kernel
theorem dX2_roofNamed_11 : decode cX2_roofNamed 11 = .ok (.getfield 16, 3) := by decide +kernel
theorem dX2_roofNamed_14 : decode cX2_roofNamed 14 = .ok (.iload_n 2, 1) := by decide +kernel
theorem dX2_roofNamed_15 : decode cX2_roofNamed 15 = .ok (.iconst 5, 1) := by decide +kernel
theorem dX2_roofNamed_16 : decode cX2_roofNamed 16 = .ok (.invokevirtual 66, 3) := by decide +kernel
theorem dX2_roofNamed_19 : decode cX2_roofNamed 19 = .ok (.iload_n 1, 1) := by decide +kernel
theorem dX2_roofNamed_20 : decode cX2_roofNamed 20 = .ok (.if_icmp .ne 5, 3) := by decide +kernel
theorem dX2_roofNamed_23 : decode cX2_roofNamed 23 = .ok (.iload_n 2, 1) := by decide +kernel
theorem dX2_roofNamed_24 : decode cX2_roofNamed 24 = .ok (.ireturn, 1) := by decide +kernel
theorem dX2_roofNamed_25 : decode cX2_roofNamed 25 = .ok (.iinc 2 1, 3) := by decide +kernel
theorem dX2_roofNamed_28 : decode cX2_roofNamed 28 = .ok (.goto (-26), 3) := by decide +kernel
theorem dX2_roofNamed_31 : decode cX2_roofNamed 31 = .ok (.iconst (-1), 1) := by decide +kernel
theorem dX2_roofNamed_32 : decode cX2_roofNamed 32 = .ok (.ireturn, 1) := by decide +kernel
theorem dX2_acrossFrom_0 : decode cX2_acrossFrom 0 = .ok (.aload_n 0, 1) := by decide +kernel
theorem dX2_acrossFrom_1 : decode cX2_acrossFrom 1 = .ok (.getfield 20, 3) := by decide +kernel
theorem dX2_acrossFrom_4 : decode cX2_acrossFrom 4 = .ok (.iload_n 2, 1) := by decide +kernel
theorem dX2_acrossFrom_5 : decode cX2_acrossFrom 5 = .ok (.iconst 0, 1) := by decide +kernel
theorem dX2_acrossFrom_6 : decode cX2_acrossFrom 6 = .ok (.invokevirtual 66, 3) := by decide +kernel
theorem dX2_acrossFrom_9 : decode cX2_acrossFrom 9 = .ok (.istore_n 3, 1) := by decide +kernel
theorem dX2_acrossFrom_10 : decode cX2_acrossFrom 10 = .ok (.aload_n 0, 1) := by decide +kernel
theorem dX2_acrossFrom_11 : decode cX2_acrossFrom 11 = .ok (.getfield 20, 3) := by decide +kernel
theorem dX2_acrossFrom_14 : decode cX2_acrossFrom 14 = .ok (.iload_n 2, 1) := by decide +kernel
theorem dX2_acrossFrom_15 : decode cX2_acrossFrom 15 = .ok (.iconst 1, 1) := by decide +kernel
theorem dX2_acrossFrom_16 : decode cX2_acrossFrom 16 = .ok (.invokevirtual 66, 3) := by decide +kernel
theorem dX2_acrossFrom_19 : decode cX2_acrossFrom 19 = .ok (.istore 4, 2) := by decide +kernel
theorem dX2_acrossFrom_21 : decode cX2_acrossFrom 21 = .ok (.iload_n 3, 1) := by decide +kernel
theorem dX2_acrossFrom_22 : decode cX2_acrossFrom 22 = .ok (.iload_n 1, 1) := by decide +kernel
theorem dX2_acrossFrom_23 : decode cX2_acrossFrom 23 = .ok (.if_icmp .ne 6, 3) := by decide +kernel
theorem dX2_acrossFrom_26 : decode cX2_acrossFrom 26 = .ok (.iload 4, 2) := by decide +kernel
theorem dX2_acrossFrom_28 : decode cX2_acrossFrom 28 = .ok (.ireturn, 1) := by decide +kernel
theorem dX2_acrossFrom_29 : decode cX2_acrossFrom 29 = .ok (.iload 4, 2) := by decide +kernel
theorem dX2_acrossFrom_31 : decode cX2_acrossFrom 31 = .ok (.iload_n 1, 1) := by decide +kernel
theorem dX2_acrossFrom_32 : decode cX2_acrossFrom 32 = .ok (.if_icmp .ne 7, 3) := by decide +kernel
theorem dX2_acrossFrom_35 : decode cX2_acrossFrom 35 = .ok (.iload_n 3, 1) := by decide +kernel
theorem dX2_acrossFrom_36 : decode cX2_acrossFrom 36 = .ok (.goto 4, 3) := by decide +kernel
theorem dX2_acrossFrom_39 : decode cX2_acrossFrom 39 = .ok (.iconst (-1), 1) := by decide +kernel
theorem dX2_acrossFrom_40 : decode cX2_acrossFrom 40 = .ok (.ireturn, 1) := by decide +kernel
theorem dX2_wayBetween_0 : decode cX2_wayBetween 0 = .ok (.iconst 0, 1) := by decide +kernel
theorem dX2_wayBetween_1 : decode cX2_wayBetween 1 = .ok (.istore_n 3, 1) := by decide +kernel
theorem dX2_wayBetween_2 : decode cX2_wayBetween 2 = .ok (.iload_n 3, 1) := by decide +kernel
theorem dX2_wayBetween_3 : decode cX2_wayBetween 3 = .ok (.aload_n 0, 1) := by decide +kernel
theorem dX2_wayBetween_4 : decode cX2_wayBetween 4 = .ok (.getfield 46, 3) := by decide +kernel
theorem dX2_wayBetween_7 : decode cX2_wayBetween 7 = .ok (.if_icmp .ge 21, 3) := by decide +kernel
theorem dX2_wayBetween_10 : decode cX2_wayBetween 10 = .ok (.aload_n 0, 1) := by decide +kernel
theorem dX2_wayBetween_11 : decode cX2_wayBetween 11 = .ok (.iload_n 1, 1) := by decide +kernel
theorem dX2_wayBetween_12 : decode cX2_wayBetween 12 = .ok (.iload_n 3, 1) := by decide +kernel
theorem dX2_wayBetween_13 : decode cX2_wayBetween 13 = .ok (.invokevirtual 92, 3) := by decide +kernel
theorem dX2_wayBetween_16 : decode cX2_wayBetween 16 = .ok (.iload_n 2, 1) := by decide +kernel
theorem dX2_wayBetween_17 : decode cX2_wayBetween 17 = .ok (.if_icmp .ne 5, 3) := by decide +kernel
theorem dX2_wayBetween_20 : decode cX2_wayBetween 20 = .ok (.iload_n 3, 1) := by decide +kernel
theorem dX2_wayBetween_21 : decode cX2_wayBetween 21 = .ok (.ireturn, 1) := by decide +kernel
theorem dX2_wayBetween_22 : decode cX2_wayBetween 22 = .ok (.iinc 3 1, 3) := by decide +kernel
theorem dX2_wayBetween_25 : decode cX2_wayBetween 25 = .ok (.goto (-23), 3) := by decide +kernel
theorem dX2_wayBetween_28 : decode cX2_wayBetween 28 = .ok (.iconst (-1), 1) := by decide +kernel
theorem dX2_wayBetween_29 : decode cX2_wayBetween 29 = .ok (.ireturn, 1) := by decide +kernel
theorem dX2_numberOfAll_0 : decode cX2_numberOfAll 0 = .ok (.iload_n 1, 1) := by decide +kernel
theorem dX2_numberOfAll_1 : decode cX2_numberOfAll 1 = .ok (.tableswitch 105 0 12 #[67, 72, 77, 82, 82, 82, 82, 90, 105, 105, 105, 95, 100], 67) := by decide +kernel
theorem dX2_numberOfAll_68 : decode cX2_numberOfAll 68 = .ok (.aload_n 0, 1) := by decide +kernel
theorem dX2_numberOfAll_69 : decode cX2_numberOfAll 69 = .ok (.getfield 43, 3) := by decide +kernel
theorem dX2_numberOfAll_72 : decode cX2_numberOfAll 72 = .ok (.ireturn, 1) := by decide +kernel
theorem dX2_numberOfAll_73 : decode cX2_numberOfAll 73 = .ok (.aload_n 0, 1) := by decide +kernel
theorem dX2_numberOfAll_74 : decode cX2_numberOfAll 74 = .ok (.getfield 46, 3) := by decide +kernel
theorem dX2_numberOfAll_77 : decode cX2_numberOfAll 77 = .ok (.ireturn, 1) := by decide +kernel
theorem dX2_numberOfAll_78 : decode cX2_numberOfAll 78 = .ok (.aload_n 0, 1) := by decide +kernel
theorem dX2_numberOfAll_79 : decode cX2_numberOfAll 79 = .ok (.getfield 49, 3) := by decide +kernel
theorem dX2_numberOfAll_82 : decode cX2_numberOfAll 82 = .ok (.ireturn, 1) := by decide +kernel
theorem dX2_numberOfAll_83 : decode cX2_numberOfAll 83 = .ok (.aload_n 0, 1) := by decide +kernel
theorem dX2_numberOfAll_84 : decode cX2_numberOfAll 84 = .ok (.iload_n 1, 1) := by decide +kernel
theorem dX2_numberOfAll_85 : decode cX2_numberOfAll 85 = .ok (.iconst 3, 1) := by decide +kernel
theorem dX2_numberOfAll_86 : decode cX2_numberOfAll 86 = .ok (.isub, 1) := by decide +kernel
theorem dX2_numberOfAll_87 : decode cX2_numberOfAll 87 = .ok (.invokevirtual 95, 3) := by decide +kernel
theorem dX2_numberOfAll_90 : decode cX2_numberOfAll 90 = .ok (.ireturn, 1) := by decide +kernel
theorem dX2_numberOfAll_91 : decode cX2_numberOfAll 91 = .ok (.aload_n 0, 1) := by decide +kernel
theorem dX2_numberOfAll_92 : decode cX2_numberOfAll 92 = .ok (.getfield 39, 3) := by decide +kernel
theorem dX2_numberOfAll_95 : decode cX2_numberOfAll 95 = .ok (.ireturn, 1) := by decide +kernel
theorem dX2_numberOfAll_96 : decode cX2_numberOfAll 96 = .ok (.aload_n 0, 1) := by decide +kernel
theorem dX2_numberOfAll_97 : decode cX2_numberOfAll 97 = .ok (.invokevirtual 99, 3) := by decide +kernel
theorem dX2_numberOfAll_100 : decode cX2_numberOfAll 100 = .ok (.ireturn, 1) := by decide +kernel
theorem dX2_numberOfAll_101 : decode cX2_numberOfAll 101 = .ok (.aload_n 0, 1) := by decide +kernel
theorem dX2_numberOfAll_102 : decode cX2_numberOfAll 102 = .ok (.invokevirtual 103, 3) := by decide +kernel
theorem dX2_numberOfAll_105 : decode cX2_numberOfAll 105 = .ok (.ireturn, 1) := by decide +kernel
theorem dX2_numberOfAll_106 : decode cX2_numberOfAll 106 = .ok (.aload_n 0, 1) := by decide +kernel
theorem dX2_numberOfAll_107 : decode cX2_numberOfAll 107 = .ok (.iload_n 1, 1) := by decide +kernel
theorem dX2_numberOfAll_108 : decode cX2_numberOfAll 108 = .ok (.invokevirtual 106, 3) := by decide +kernel
theorem dX2_numberOfAll_111 : decode cX2_numberOfAll 111 = .ok (.ireturn, 1) := by decide +kernel
theorem dX2_tunesIn_0 : decode cX2_tunesIn 0 = .ok (.iconst 0, 1) := by decide +kernel
theorem dX2_tunesIn_1 : decode cX2_tunesIn 1 = .ok (.istore_n 2, 1) := by decide +kernel
theorem dX2_tunesIn_2 : decode cX2_tunesIn 2 = .ok (.iconst 0, 1) := by decide +kernel
theorem dX2_tunesIn_3 : decode cX2_tunesIn 3 = .ok (.istore_n 3, 1) := by decide +kernel
theorem dX2_tunesIn_4 : decode cX2_tunesIn 4 = .ok (.iload_n 3, 1) := by decide +kernel
theorem dX2_tunesIn_5 : decode cX2_tunesIn 5 = .ok (.aload_n 0, 1) := by decide +kernel
theorem dX2_tunesIn_6 : decode cX2_tunesIn 6 = .ok (.getfield 49, 3) := by decide +kernel
theorem dX2_tunesIn_9 : decode cX2_tunesIn 9 = .ok (.if_icmp .ge 25, 3) := by decide +kernel
theorem dX2_tunesIn_12 : decode cX2_tunesIn 12 = .ok (.aload_n 0, 1) := by decide +kernel
theorem dX2_tunesIn_13 : decode cX2_tunesIn 13 = .ok (.getfield 23, 3) := by decide +kernel
theorem dX2_tunesIn_16 : decode cX2_tunesIn 16 = .ok (.iload_n 3, 1) := by decide +kernel
theorem dX2_tunesIn_17 : decode cX2_tunesIn 17 = .ok (.iconst 3, 1) := by decide +kernel
theorem dX2_tunesIn_18 : decode cX2_tunesIn 18 = .ok (.invokevirtual 66, 3) := by decide +kernel
theorem dX2_tunesIn_21 : decode cX2_tunesIn 21 = .ok (.iload_n 1, 1) := by decide +kernel
theorem dX2_tunesIn_22 : decode cX2_tunesIn 22 = .ok (.if_icmp .ne 6, 3) := by decide +kernel
theorem dX2_tunesIn_25 : decode cX2_tunesIn 25 = .ok (.iinc 2 1, 3) := by decide +kernel
theorem dX2_tunesIn_28 : decode cX2_tunesIn 28 = .ok (.iinc 3 1, 3) := by decide +kernel
theorem dX2_tunesIn_31 : decode cX2_tunesIn 31 = .ok (.goto (-27), 3) := by decide +kernel
theorem dX2_tunesIn_34 : decode cX2_tunesIn 34 = .ok (.iload_n 2, 1) := by decide +kernel
theorem dX2_tunesIn_35 : decode cX2_tunesIn 35 = .ok (.ireturn, 1) := by decide +kernel
theorem dX2_busyWhistlers_0 : decode cX2_busyWhistlers 0 = .ok (.iconst 0, 1) := by decide +kernel
theorem dX2_busyWhistlers_1 : decode cX2_busyWhistlers 1 = .ok (.istore_n 1, 1) := by decide +kernel
theorem dX2_busyWhistlers_2 : decode cX2_busyWhistlers 2 = .ok (.iconst 0, 1) := by decide +kernel
theorem dX2_busyWhistlers_3 : decode cX2_busyWhistlers 3 = .ok (.istore_n 2, 1) := by decide +kernel
theorem dX2_busyWhistlers_4 : decode cX2_busyWhistlers 4 = .ok (.iload_n 2, 1) := by decide +kernel
theorem dX2_busyWhistlers_5 : decode cX2_busyWhistlers 5 = .ok (.aload_n 0, 1) := by decide +kernel
theorem dX2_busyWhistlers_6 : decode cX2_busyWhistlers 6 = .ok (.getfield 43, 3) := by decide +kernel
theorem dX2_busyWhistlers_9 : decode cX2_busyWhistlers 9 = .ok (.if_icmp .ge 24, 3) := by decide +kernel
theorem dX2_busyWhistlers_12 : decode cX2_busyWhistlers 12 = .ok (.aload_n 0, 1) := by decide +kernel
theorem dX2_busyWhistlers_13 : decode cX2_busyWhistlers 13 = .ok (.iload_n 2, 1) := by decide +kernel
theorem dX2_busyWhistlers_14 : decode cX2_busyWhistlers 14 = .ok (.aload_n 0, 1) := by decide +kernel
theorem dX2_busyWhistlers_15 : decode cX2_busyWhistlers 15 = .ok (.getfield 39, 3) := by decide +kernel
theorem dX2_busyWhistlers_18 : decode cX2_busyWhistlers 18 = .ok (.invokevirtual 109, 3) := by decide +kernel
theorem dX2_busyWhistlers_21 : decode cX2_busyWhistlers 21 = .ok (.ifCond .eq 6, 3) := by decide +kernel
theorem dX2_busyWhistlers_24 : decode cX2_busyWhistlers 24 = .ok (.iinc 1 1, 3) := by decide +kernel
theorem dX2_busyWhistlers_27 : decode cX2_busyWhistlers 27 = .ok (.iinc 2 1, 3) := by decide +kernel
theorem dX2_busyWhistlers_30 : decode cX2_busyWhistlers 30 = .ok (.goto (-26), 3) := by decide +kernel
theorem dX2_busyWhistlers_33 : decode cX2_busyWhistlers 33 = .ok (.iload_n 1, 1) := by decide +kernel
theorem dX2_busyWhistlers_34 : decode cX2_busyWhistlers 34 = .ok (.ireturn, 1) := by decide +kernel
theorem dX2_isBusy_0 : decode cX2_isBusy 0 = .ok (.aload_n 0, 1) := by decide +kernel
theorem dX2_isBusy_1 : decode cX2_isBusy 1 = .ok (.getfield 16, 3) := by decide +kernel
theorem dX2_isBusy_4 : decode cX2_isBusy 4 = .ok (.iload_n 1, 1) := by decide +kernel
theorem dX2_isBusy_5 : decode cX2_isBusy 5 = .ok (.iconst 4, 1) := by decide +kernel
theorem dX2_isBusy_6 : decode cX2_isBusy 6 = .ok (.invokevirtual 66, 3) := by decide +kernel
theorem dX2_isBusy_9 : decode cX2_isBusy 9 = .ok (.iload_n 2, 1) := by decide +kernel
theorem dX2_isBusy_10 : decode cX2_isBusy 10 = .ok (.if_icmp .le 7, 3) := by decide +kernel
theorem dX2_isBusy_13 : decode cX2_isBusy 13 = .ok (.iconst 1, 1) := by decide +kernel
theorem dX2_isBusy_14 : decode cX2_isBusy 14 = .ok (.goto 4, 3) := by decide +kernel
theorem dX2_isBusy_17 : decode cX2_isBusy 17 = .ok (.iconst 0, 1) := by decide +kernel
theorem dX2_isBusy_18 : decode cX2_isBusy 18 = .ok (.ireturn, 1) := by decide +kernel
theorem dX2_pursesTogether_0 : decode cX2_pursesTogether 0 = .ok (.iconst 0, 1) := by decide +kernel
theorem dX2_pursesTogether_1 : decode cX2_pursesTogether 1 = .ok (.istore_n 1, 1) := by decide +kernel
theorem dX2_pursesTogether_2 : decode cX2_pursesTogether 2 = .ok (.iconst 0, 1) := by decide +kernel
theorem dX2_pursesTogether_3 : decode cX2_pursesTogether 3 = .ok (.istore_n 2, 1) := by decide +kernel
theorem dX2_pursesTogether_4 : decode cX2_pursesTogether 4 = .ok (.iload_n 2, 1) := by decide +kernel
theorem dX2_pursesTogether_5 : decode cX2_pursesTogether 5 = .ok (.aload_n 0, 1) := by decide +kernel
theorem dX2_pursesTogether_6 : decode cX2_pursesTogether 6 = .ok (.getfield 43, 3) := by decide +kernel
theorem dX2_pursesTogether_9 : decode cX2_pursesTogether 9 = .ok (.if_icmp .ge 21, 3) := by decide +kernel
theorem dX2_pursesTogether_12 : decode cX2_pursesTogether 12 = .ok (.iload_n 1, 1) := by decide +kernel
theorem dX2_pursesTogether_13 : decode cX2_pursesTogether 13 = .ok (.aload_n 0, 1) := by decide +kernel
theorem dX2_pursesTogether_14 : decode cX2_pursesTogether 14 = .ok (.getfield 16, 3) := by decide +kernel
theorem dX2_pursesTogether_17 : decode cX2_pursesTogether 17 = .ok (.iload_n 2, 1) := by decide +kernel
theorem dX2_pursesTogether_18 : decode cX2_pursesTogether 18 = .ok (.iconst 3, 1) := by decide +kernel
theorem dX2_pursesTogether_19 : decode cX2_pursesTogether 19 = .ok (.invokevirtual 66, 3) := by decide +kernel
theorem dX2_pursesTogether_22 : decode cX2_pursesTogether 22 = .ok (.iadd, 1) := by decide +kernel
theorem dX2_pursesTogether_23 : decode cX2_pursesTogether 23 = .ok (.istore_n 1, 1) := by decide +kernel
theorem dX2_pursesTogether_24 : decode cX2_pursesTogether 24 = .ok (.iinc 2 1, 3) := by decide +kernel
theorem dX2_pursesTogether_27 : decode cX2_pursesTogether 27 = .ok (.goto (-23), 3) := by decide +kernel
theorem dX2_pursesTogether_30 : decode cX2_pursesTogether 30 = .ok (.iload_n 1, 1) := by decide +kernel
theorem dX2_pursesTogether_31 : decode cX2_pursesTogether 31 = .ok (.ireturn, 1) := by decide +kernel
theorem dX2_numberOfRoof_0 : decode cX2_numberOfRoof 0 = .ok (.iload_n 2, 1) := by decide +kernel
theorem dX2_numberOfRoof_1 : decode cX2_numberOfRoof 1 = .ok (.tableswitch 58 4 6 #[27, 46, 52], 27) := by decide +kernel
theorem dX2_numberOfRoof_28 : decode cX2_numberOfRoof 28 = .ok (.iconst 0, 1) := by decide +kernel
theorem dX2_numberOfRoof_29 : decode cX2_numberOfRoof 29 = .ok (.aload_n 0, 1) := by decide +kernel
theorem dX2_numberOfRoof_30 : decode cX2_numberOfRoof 30 = .ok (.getfield 16, 3) := by decide +kernel
theorem dX2_numberOfRoof_33 : decode cX2_numberOfRoof 33 = .ok (.iload_n 1, 1) := by decide +kernel
theorem dX2_numberOfRoof_34 : decode cX2_numberOfRoof 34 = .ok (.iconst 4, 1) := by decide +kernel
theorem dX2_numberOfRoof_35 : decode cX2_numberOfRoof 35 = .ok (.invokevirtual 66, 3) := by decide +kernel
theorem dX2_numberOfRoof_38 : decode cX2_numberOfRoof 38 = .ok (.aload_n 0, 1) := by decide +kernel
theorem dX2_numberOfRoof_39 : decode cX2_numberOfRoof 39 = .ok (.getfield 39, 3) := by decide +kernel
theorem dX2_numberOfRoof_42 : decode cX2_numberOfRoof 42 = .ok (.isub, 1) := by decide +kernel
theorem dX2_numberOfRoof_43 : decode cX2_numberOfRoof 43 = .ok (.invokestatic 113, 3) := by decide +kernel
theorem dX2_numberOfRoof_46 : decode cX2_numberOfRoof 46 = .ok (.ireturn, 1) := by decide +kernel
theorem dX2_numberOfRoof_47 : decode cX2_numberOfRoof 47 = .ok (.aload_n 0, 1) := by decide +kernel
theorem dX2_numberOfRoof_48 : decode cX2_numberOfRoof 48 = .ok (.iload_n 1, 1) := by decide +kernel
theorem dX2_numberOfRoof_49 : decode cX2_numberOfRoof 49 = .ok (.invokevirtual 118, 3) := by decide +kernel
theorem dX2_numberOfRoof_52 : decode cX2_numberOfRoof 52 = .ok (.ireturn, 1) := by decide +kernel
theorem dX2_numberOfRoof_53 : decode cX2_numberOfRoof 53 = .ok (.aload_n 0, 1) := by decide +kernel
theorem dX2_numberOfRoof_54 : decode cX2_numberOfRoof 54 = .ok (.iload_n 1, 1) := by decide +kernel
theorem dX2_numberOfRoof_55 : decode cX2_numberOfRoof 55 = .ok (.invokevirtual 121, 3) := by decide +kernel
theorem dX2_numberOfRoof_58 : decode cX2_numberOfRoof 58 = .ok (.ireturn, 1) := by decide +kernel
theorem dX2_numberOfRoof_59 : decode cX2_numberOfRoof 59 = .ok (.aload_n 0, 1) := by decide +kernel
theorem dX2_numberOfRoof_60 : decode cX2_numberOfRoof 60 = .ok (.getfield 16, 3) := by decide +kernel
theorem dX2_numberOfRoof_63 : decode cX2_numberOfRoof 63 = .ok (.iload_n 1, 1) := by decide +kernel
theorem dX2_numberOfRoof_64 : decode cX2_numberOfRoof 64 = .ok (.iload_n 2, 1) := by decide +kernel
theorem dX2_numberOfRoof_65 : decode cX2_numberOfRoof 65 = .ok (.invokevirtual 66, 3) := by decide +kernel
theorem dX2_numberOfRoof_68 : decode cX2_numberOfRoof 68 = .ok (.ireturn, 1) := by decide +kernel
theorem dX2_tunesAt_0 : decode cX2_tunesAt 0 = .ok (.iconst 0, 1) := by decide +kernel
theorem dX2_tunesAt_1 : decode cX2_tunesAt 1 = .ok (.istore_n 2, 1) := by decide +kernel
theorem dX2_tunesAt_2 : decode cX2_tunesAt 2 = .ok (.iconst 0, 1) := by decide +kernel
theorem dX2_tunesAt_3 : decode cX2_tunesAt 3 = .ok (.istore_n 3, 1) := by decide +kernel
theorem dX2_tunesAt_4 : decode cX2_tunesAt 4 = .ok (.iload_n 3, 1) := by decide +kernel
theorem dX2_tunesAt_5 : decode cX2_tunesAt 5 = .ok (.aload_n 0, 1) := by decide +kernel
theorem dX2_tunesAt_6 : decode cX2_tunesAt 6 = .ok (.getfield 49, 3) := by decide +kernel
theorem dX2_tunesAt_9 : decode cX2_tunesAt 9 = .ok (.if_icmp .ge 21, 3) := by decide +kernel
theorem dX2_tunesAt_12 : decode cX2_tunesAt 12 = .ok (.aload_n 0, 1) := by decide +kernel
theorem dX2_tunesAt_13 : decode cX2_tunesAt 13 = .ok (.iload_n 3, 1) := by decide +kernel
theorem dX2_tunesAt_14 : decode cX2_tunesAt 14 = .ok (.iload_n 1, 1) := by decide +kernel
theorem dX2_tunesAt_15 : decode cX2_tunesAt 15 = .ok (.invokevirtual 124, 3) := by decide +kernel
theorem dX2_tunesAt_18 : decode cX2_tunesAt 18 = .ok (.ifCond .eq 6, 3) := by decide +kernel
theorem dX2_tunesAt_21 : decode cX2_tunesAt 21 = .ok (.iinc 2 1, 3) := by decide +kernel
theorem dX2_tunesAt_24 : decode cX2_tunesAt 24 = .ok (.iinc 3 1, 3) := by decide +kernel
theorem dX2_tunesAt_27 : decode cX2_tunesAt 27 = .ok (.goto (-23), 3) := by decide +kernel
theorem dX2_tunesAt_30 : decode cX2_tunesAt 30 = .ok (.iload_n 2, 1) := by decide +kernel
theorem dX2_tunesAt_31 : decode cX2_tunesAt 31 = .ok (.ireturn, 1) := by decide +kernel
theorem dX2_waysAt_0 : decode cX2_waysAt 0 = .ok (.iconst 0, 1) := by decide +kernel
theorem dX2_waysAt_1 : decode cX2_waysAt 1 = .ok (.istore_n 2, 1) := by decide +kernel
theorem dX2_waysAt_2 : decode cX2_waysAt 2 = .ok (.iconst 0, 1) := by decide +kernel
theorem dX2_waysAt_3 : decode cX2_waysAt 3 = .ok (.istore_n 3, 1) := by decide +kernel
theorem dX2_waysAt_4 : decode cX2_waysAt 4 = .ok (.iload_n 3, 1) := by decide +kernel
theorem dX2_waysAt_5 : decode cX2_waysAt 5 = .ok (.aload_n 0, 1) := by decide +kernel
theorem dX2_waysAt_6 : decode cX2_waysAt 6 = .ok (.getfield 46, 3) := by decide +kernel
theorem dX2_waysAt_9 : decode cX2_waysAt 9 = .ok (.if_icmp .ge 22, 3) := by decide +kernel
theorem dX2_waysAt_12 : decode cX2_waysAt 12 = .ok (.aload_n 0, 1) := by decide +kernel
theorem dX2_waysAt_13 : decode cX2_waysAt 13 = .ok (.iload_n 1, 1) := by decide +kernel
theorem dX2_waysAt_14 : decode cX2_waysAt 14 = .ok (.iload_n 3, 1) := by decide +kernel
theorem dX2_waysAt_15 : decode cX2_waysAt 15 = .ok (.invokevirtual 92, 3) := by decide +kernel
theorem dX2_waysAt_18 : decode cX2_waysAt 18 = .ok (.iconst (-1), 1) := by decide +kernel
theorem dX2_waysAt_19 : decode cX2_waysAt 19 = .ok (.if_icmp .eq 6, 3) := by decide +kernel
theorem dX2_waysAt_22 : decode cX2_waysAt 22 = .ok (.iinc 2 1, 3) := by decide +kernel
theorem dX2_waysAt_25 : decode cX2_waysAt 25 = .ok (.iinc 3 1, 3) := by decide +kernel
theorem dX2_waysAt_28 : decode cX2_waysAt 28 = .ok (.goto (-24), 3) := by decide +kernel
theorem dX2_waysAt_31 : decode cX2_waysAt 31 = .ok (.iload_n 2, 1) := by decide +kernel
theorem dX2_waysAt_32 : decode cX2_waysAt 32 = .ok (.ireturn, 1) := by decide +kernel
theorem dX2_isWaitingAt_0 : decode cX2_isWaitingAt 0 = .ok (.aload_n 0, 1) := by decide +kernel
theorem dX2_isWaitingAt_1 : decode cX2_isWaitingAt 1 = .ok (.getfield 23, 3) := by decide +kernel
theorem dX2_isWaitingAt_4 : decode cX2_isWaitingAt 4 = .ok (.iload_n 1, 1) := by decide +kernel
theorem dX2_isWaitingAt_5 : decode cX2_isWaitingAt 5 = .ok (.iconst 3, 1) := by decide +kernel
theorem dX2_isWaitingAt_6 : decode cX2_isWaitingAt 6 = .ok (.invokevirtual 66, 3) := by decide +kernel
theorem dX2_isWaitingAt_9 : decode cX2_isWaitingAt 9 = .ok (.ifCond .ne 20, 3) := by decide +kernel
theorem dX2_isWaitingAt_12 : decode cX2_isWaitingAt 12 = .ok (.aload_n 0, 1) := by decide +kernel
theorem dX2_isWaitingAt_13 : decode cX2_isWaitingAt 13 = .ok (.getfield 23, 3) := by decide +kernel
theorem dX2_isWaitingAt_16 : decode cX2_isWaitingAt 16 = .ok (.iload_n 1, 1) := by decide +kernel
theorem dX2_isWaitingAt_17 : decode cX2_isWaitingAt 17 = .ok (.iconst 4, 1) := by decide +kernel
theorem dX2_isWaitingAt_18 : decode cX2_isWaitingAt 18 = .ok (.invokevirtual 66, 3) := by decide +kernel
theorem dX2_isWaitingAt_21 : decode cX2_isWaitingAt 21 = .ok (.iload_n 2, 1) := by decide +kernel
theorem dX2_isWaitingAt_22 : decode cX2_isWaitingAt 22 = .ok (.if_icmp .ne 7, 3) := by decide +kernel
theorem dX2_isWaitingAt_25 : decode cX2_isWaitingAt 25 = .ok (.iconst 1, 1) := by decide +kernel
theorem dX2_isWaitingAt_26 : decode cX2_isWaitingAt 26 = .ok (.goto 4, 3) := by decide +kernel
theorem dX2_isWaitingAt_29 : decode cX2_isWaitingAt 29 = .ok (.iconst 0, 1) := by decide +kernel
theorem dX2_isWaitingAt_30 : decode cX2_isWaitingAt 30 = .ok (.ireturn, 1) := by decide +kernel
theorem dX2_numberOfTune_0 : decode cX2_numberOfTune 0 = .ok (.iload_n 2, 1) := by decide +kernel
theorem dX2_numberOfTune_1 : decode cX2_numberOfTune 1 = .ok (.lookupswitch 39 #[(9, 27), (10, 33)], 27) := by decide +kernel
theorem dX2_numberOfTune_28 : decode cX2_numberOfTune 28 = .ok (.aload_n 0, 1) := by decide +kernel
theorem dX2_numberOfTune_29 : decode cX2_numberOfTune 29 = .ok (.iload_n 1, 1) := by decide +kernel
theorem dX2_numberOfTune_30 : decode cX2_numberOfTune 30 = .ok (.invokevirtual 127, 3) := by decide +kernel
theorem dX2_numberOfTune_33 : decode cX2_numberOfTune 33 = .ok (.ireturn, 1) := by decide +kernel
theorem dX2_numberOfTune_34 : decode cX2_numberOfTune 34 = .ok (.aload_n 0, 1) := by decide +kernel
theorem dX2_numberOfTune_35 : decode cX2_numberOfTune 35 = .ok (.iload_n 1, 1) := by decide +kernel
theorem dX2_numberOfTune_36 : decode cX2_numberOfTune 36 = .ok (.invokevirtual 130, 3) := by decide +kernel
theorem dX2_numberOfTune_39 : decode cX2_numberOfTune 39 = .ok (.ireturn, 1) := by decide +kernel
theorem dX2_numberOfTune_40 : decode cX2_numberOfTune 40 = .ok (.aload_n 0, 1) := by decide +kernel
theorem dX2_numberOfTune_41 : decode cX2_numberOfTune 41 = .ok (.getfield 23, 3) := by decide +kernel
theorem dX2_numberOfTune_44 : decode cX2_numberOfTune 44 = .ok (.iload_n 1, 1) := by decide +kernel
theorem dX2_numberOfTune_45 : decode cX2_numberOfTune 45 = .ok (.iload_n 2, 1) := by decide +kernel
theorem dX2_numberOfTune_46 : decode cX2_numberOfTune 46 = .ok (.invokevirtual 66, 3) := by decide +kernel
theorem dX2_numberOfTune_49 : decode cX2_numberOfTune 49 = .ok (.ireturn, 1) := by decide +kernel
theorem dX2_barsOf_0 : decode cX2_barsOf 0 = .ok (.iload_n 0, 1) := by decide +kernel
theorem dX2_barsOf_1 : decode cX2_barsOf 1 = .ok (.iconst 3, 1) := by decide +kernel
theorem dX2_barsOf_2 : decode cX2_barsOf 2 = .ok (.iadd, 1) := by decide +kernel
theorem dX2_barsOf_3 : decode cX2_barsOf 3 = .ok (.iconst 4, 1) := by decide +kernel
theorem dX2_barsOf_4 : decode cX2_barsOf 4 = .ok (.idiv, 1) := by decide +kernel
theorem dX2_barsOf_5 : decode cX2_barsOf 5 = .ok (.ireturn, 1) := by decide +kernel
theorem dX2_barsOfTune_0 : decode cX2_barsOfTune 0 = .ok (.aload_n 0, 1) := by decide +kernel
theorem dX2_barsOfTune_1 : decode cX2_barsOfTune 1 = .ok (.getfield 23, 3) := by decide +kernel
theorem dX2_barsOfTune_4 : decode cX2_barsOfTune 4 = .ok (.iload_n 1, 1) := by decide +kernel
theorem dX2_barsOfTune_5 : decode cX2_barsOfTune 5 = .ok (.iconst 2, 1) := by decide +kernel
theorem dX2_barsOfTune_6 : decode cX2_barsOfTune 6 = .ok (.invokevirtual 66, 3) := by decide +kernel
theorem dX2_barsOfTune_9 : decode cX2_barsOfTune 9 = .ok (.invokestatic 133, 3) := by decide +kernel
theorem dX2_barsOfTune_12 : decode cX2_barsOfTune 12 = .ok (.ireturn, 1) := by decide +kernel
theorem dX2_notesUnlikeSent_0 : decode cX2_notesUnlikeSent 0 = .ok (.iconst 0, 1) := by decide +kernel
theorem dX2_notesUnlikeSent_1 : decode cX2_notesUnlikeSent 1 = .ok (.istore_n 2, 1) := by decide +kernel
theorem dX2_notesUnlikeSent_2 : decode cX2_notesUnlikeSent 2 = .ok (.aload_n 0, 1) := by decide +kernel
theorem dX2_notesUnlikeSent_3 : decode cX2_notesUnlikeSent 3 = .ok (.getfield 23, 3) := by decide +kernel
theorem dX2_notesUnlikeSent_6 : decode cX2_notesUnlikeSent 6 = .ok (.iload_n 1, 1) := by decide +kernel
theorem dX2_notesUnlikeSent_7 : decode cX2_notesUnlikeSent 7 = .ok (.bipush 9, 2) := by decide +kernel
theorem dX2_notesUnlikeSent_9 : decode cX2_notesUnlikeSent 9 = .ok (.invokevirtual 66, 3) := by decide +kernel
theorem dX2_notesUnlikeSent_12 : decode cX2_notesUnlikeSent 12 = .ok (.istore_n 3, 1) := by decide +kernel
theorem dX2_notesUnlikeSent_13 : decode cX2_notesUnlikeSent 13 = .ok (.aload_n 0, 1) := by decide +kernel
theorem dX2_notesUnlikeSent_14 : decode cX2_notesUnlikeSent 14 = .ok (.getfield 23, 3) := by decide +kernel
theorem dX2_notesUnlikeSent_17 : decode cX2_notesUnlikeSent 17 = .ok (.iload_n 1, 1) := by decide +kernel
theorem dX2_notesUnlikeSent_18 : decode cX2_notesUnlikeSent 18 = .ok (.bipush 10, 2) := by decide +kernel
theorem dX2_notesUnlikeSent_20 : decode cX2_notesUnlikeSent 20 = .ok (.invokevirtual 66, 3) := by decide +kernel
theorem dX2_notesUnlikeSent_23 : decode cX2_notesUnlikeSent 23 = .ok (.istore 4, 2) := by decide +kernel
theorem dX2_notesUnlikeSent_25 : decode cX2_notesUnlikeSent 25 = .ok (.iconst 0, 1) := by decide +kernel
theorem dX2_notesUnlikeSent_26 : decode cX2_notesUnlikeSent 26 = .ok (.istore 5, 2) := by decide +kernel
theorem dX2_notesUnlikeSent_28 : decode cX2_notesUnlikeSent 28 = .ok (.iload 5, 2) := by decide +kernel
theorem dX2_notesUnlikeSent_30 : decode cX2_notesUnlikeSent 30 = .ok (.bipush 8, 2) := by decide +kernel
theorem dX2_notesUnlikeSent_32 : decode cX2_notesUnlikeSent 32 = .ok (.if_icmp .ge 28, 3) := by decide +kernel
theorem dX2_notesUnlikeSent_35 : decode cX2_notesUnlikeSent 35 = .ok (.iload_n 3, 1) := by decide +kernel
theorem dX2_notesUnlikeSent_36 : decode cX2_notesUnlikeSent 36 = .ok (.iload 5, 2) := by decide +kernel
theorem dX2_notesUnlikeSent_38 : decode cX2_notesUnlikeSent 38 = .ok (.invokestatic 136, 3) := by decide +kernel
theorem dX2_notesUnlikeSent_41 : decode cX2_notesUnlikeSent 41 = .ok (.iload 4, 2) := by decide +kernel
theorem dX2_notesUnlikeSent_43 : decode cX2_notesUnlikeSent 43 = .ok (.iload 5, 2) := by decide +kernel
theorem dX2_notesUnlikeSent_45 : decode cX2_notesUnlikeSent 45 = .ok (.invokestatic 136, 3) := by decide +kernel
theorem dX2_notesUnlikeSent_48 : decode cX2_notesUnlikeSent 48 = .ok (.if_icmp .eq 6, 3) := by decide +kernel
theorem dX2_notesUnlikeSent_51 : decode cX2_notesUnlikeSent 51 = .ok (.iinc 2 1, 3) := by decide +kernel
theorem dX2_notesUnlikeSent_54 : decode cX2_notesUnlikeSent 54 = .ok (.iinc 5 1, 3) := by decide +kernel
theorem dX2_notesUnlikeSent_57 : decode cX2_notesUnlikeSent 57 = .ok (.goto (-29), 3) := by decide +kernel
theorem dX2_notesUnlikeSent_60 : decode cX2_notesUnlikeSent 60 = .ok (.iload_n 2, 1) := by decide +kernel
theorem dX2_notesUnlikeSent_61 : decode cX2_notesUnlikeSent 61 = .ok (.ireturn, 1) := by decide +kernel
theorem dX2_nextOf_0 : decode cX2_nextOf 0 = .ok (.aload_n 0, 1) := by decide +kernel
theorem dX2_nextOf_1 : decode cX2_nextOf 1 = .ok (.getfield 35, 3) := by decide +kernel
theorem dX2_nextOf_4 : decode cX2_nextOf 4 = .ok (.getfield 139, 3) := by decide +kernel
theorem dX2_nextOf_7 : decode cX2_nextOf 7 = .ok (.aload_n 0, 1) := by decide +kernel
theorem dX2_nextOf_8 : decode cX2_nextOf 8 = .ok (.getfield 23, 3) := by decide +kernel
theorem dX2_nextOf_11 : decode cX2_nextOf 11 = .ok (.iload_n 1, 1) := by decide +kernel
theorem dX2_nextOf_12 : decode cX2_nextOf 12 = .ok (.iconst 4, 1) := by decide +kernel
theorem dX2_nextOf_13 : decode cX2_nextOf 13 = .ok (.invokevirtual 66, 3) := by decide +kernel
theorem dX2_nextOf_16 : decode cX2_nextOf 16 = .ok (.aload_n 0, 1) := by decide +kernel
theorem dX2_nextOf_17 : decode cX2_nextOf 17 = .ok (.getfield 23, 3) := by decide +kernel
theorem dX2_nextOf_20 : decode cX2_nextOf 20 = .ok (.iload_n 1, 1) := by decide +kernel
theorem dX2_nextOf_21 : decode cX2_nextOf 21 = .ok (.iconst 1, 1) := by decide +kernel
theorem dX2_nextOf_22 : decode cX2_nextOf 22 = .ok (.invokevirtual 66, 3) := by decide +kernel
theorem dX2_nextOf_25 : decode cX2_nextOf 25 = .ok (.invokevirtual 66, 3) := by decide +kernel
theorem dX2_nextOf_28 : decode cX2_nextOf 28 = .ok (.ireturn, 1) := by decide +kernel
theorem dX2_lackOf_0 : decode cX2_lackOf 0 = .ok (.aload_n 0, 1) := by decide +kernel
theorem dX2_lackOf_1 : decode cX2_lackOf 1 = .ok (.getfield 16, 3) := by decide +kernel
theorem dX2_lackOf_4 : decode cX2_lackOf 4 = .ok (.aload_n 0, 1) := by decide +kernel
theorem dX2_lackOf_5 : decode cX2_lackOf 5 = .ok (.getfield 23, 3) := by decide +kernel
theorem dX2_lackOf_8 : decode cX2_lackOf 8 = .ok (.iload_n 1, 1) := by decide +kernel
theorem dX2_lackOf_9 : decode cX2_lackOf 9 = .ok (.iconst 4, 1) := by decide +kernel
theorem dX2_lackOf_10 : decode cX2_lackOf 10 = .ok (.invokevirtual 66, 3) := by decide +kernel
theorem dX2_lackOf_13 : decode cX2_lackOf 13 = .ok (.iconst 2, 1) := by decide +kernel
theorem dX2_lackOf_14 : decode cX2_lackOf 14 = .ok (.invokevirtual 66, 3) := by decide +kernel
theorem dX2_lackOf_17 : decode cX2_lackOf 17 = .ok (.aload_n 0, 1) := by decide +kernel
theorem dX2_lackOf_18 : decode cX2_lackOf 18 = .ok (.getfield 23, 3) := by decide +kernel
theorem dX2_lackOf_21 : decode cX2_lackOf 21 = .ok (.iload_n 1, 1) := by decide +kernel
theorem dX2_lackOf_22 : decode cX2_lackOf 22 = .ok (.iconst 2, 1) := by decide +kernel
theorem dX2_lackOf_23 : decode cX2_lackOf 23 = .ok (.invokevirtual 66, 3) := by decide +kernel
theorem dX2_lackOf_26 : decode cX2_lackOf 26 = .ok (.invokestatic 133, 3) := by decide +kernel
theorem dX2_lackOf_29 : decode cX2_lackOf 29 = .ok (.imul, 1) := by decide +kernel
theorem dX2_lackOf_30 : decode cX2_lackOf 30 = .ok (.istore_n 2, 1) := by decide +kernel
theorem dX2_lackOf_31 : decode cX2_lackOf 31 = .ok (.iload_n 2, 1) := by decide +kernel
theorem dX2_lackOf_32 : decode cX2_lackOf 32 = .ok (.aload_n 0, 1) := by decide +kernel
theorem dX2_lackOf_33 : decode cX2_lackOf 33 = .ok (.getfield 16, 3) := by decide +kernel
theorem dX2_lackOf_36 : decode cX2_lackOf 36 = .ok (.aload_n 0, 1) := by decide +kernel
theorem dX2_lackOf_37 : decode cX2_lackOf 37 = .ok (.getfield 23, 3) := by decide +kernel
theorem dX2_lackOf_40 : decode cX2_lackOf 40 = .ok (.iload_n 1, 1) := by decide +kernel
theorem dX2_lackOf_41 : decode cX2_lackOf 41 = .ok (.iconst 0, 1) := by decide +kernel
theorem dX2_lackOf_42 : decode cX2_lackOf 42 = .ok (.invokevirtual 66, 3) := by decide +kernel
theorem dX2_lackOf_45 : decode cX2_lackOf 45 = .ok (.iconst 3, 1) := by decide +kernel
theorem dX2_lackOf_46 : decode cX2_lackOf 46 = .ok (.invokevirtual 66, 3) := by decide +kernel
theorem dX2_lackOf_49 : decode cX2_lackOf 49 = .ok (.isub, 1) := by decide +kernel
theorem dX2_lackOf_50 : decode cX2_lackOf 50 = .ok (.ireturn, 1) := by decide +kernel
theorem dX2_firstToGoFrom_0 : decode cX2_firstToGoFrom 0 = .ok (.iconst (-1), 1) := by decide +kernel
theorem dX2_firstToGoFrom_1 : decode cX2_firstToGoFrom 1 = .ok (.istore_n 2, 1) := by decide +kernel
theorem dX2_firstToGoFrom_2 : decode cX2_firstToGoFrom 2 = .ok (.iconst 0, 1) := by decide +kernel
theorem dX2_firstToGoFrom_3 : decode cX2_firstToGoFrom 3 = .ok (.istore_n 3, 1) := by decide +kernel
theorem dX2_firstToGoFrom_4 : decode cX2_firstToGoFrom 4 = .ok (.iload_n 3, 1) := by decide +kernel
theorem dX2_firstToGoFrom_5 : decode cX2_firstToGoFrom 5 = .ok (.aload_n 0, 1) := by decide +kernel
theorem dX2_firstToGoFrom_6 : decode cX2_firstToGoFrom 6 = .ok (.getfield 49, 3) := by decide +kernel
theorem dX2_firstToGoFrom_9 : decode cX2_firstToGoFrom 9 = .ok (.if_icmp .ge 55, 3) := by decide +kernel
theorem dX2_firstToGoFrom_12 : decode cX2_firstToGoFrom 12 = .ok (.aload_n 0, 1) := by decide +kernel
theorem dX2_firstToGoFrom_13 : decode cX2_firstToGoFrom 13 = .ok (.iload_n 3, 1) := by decide +kernel
theorem dX2_firstToGoFrom_14 : decode cX2_firstToGoFrom 14 = .ok (.iload_n 1, 1) := by decide +kernel
theorem dX2_firstToGoFrom_15 : decode cX2_firstToGoFrom 15 = .ok (.invokevirtual 124, 3) := by decide +kernel
theorem dX2_firstToGoFrom_18 : decode cX2_firstToGoFrom 18 = .ok (.ifCond .eq 40, 3) := by decide +kernel
theorem dX2_firstToGoFrom_21 : decode cX2_firstToGoFrom 21 = .ok (.aload_n 0, 1) := by decide +kernel
theorem dX2_firstToGoFrom_22 : decode cX2_firstToGoFrom 22 = .ok (.iload_n 3, 1) := by decide +kernel
theorem dX2_firstToGoFrom_23 : decode cX2_firstToGoFrom 23 = .ok (.invokevirtual 142, 3) := by decide +kernel
theorem dX2_firstToGoFrom_26 : decode cX2_firstToGoFrom 26 = .ok (.iconst (-1), 1) := by decide +kernel
theorem dX2_firstToGoFrom_27 : decode cX2_firstToGoFrom 27 = .ok (.if_icmp .eq 31, 3) := by decide +kernel
theorem dX2_firstToGoFrom_30 : decode cX2_firstToGoFrom 30 = .ok (.aload_n 0, 1) := by decide +kernel
theorem dX2_firstToGoFrom_31 : decode cX2_firstToGoFrom 31 = .ok (.iload_n 3, 1) := by decide +kernel
theorem dX2_firstToGoFrom_32 : decode cX2_firstToGoFrom 32 = .ok (.invokevirtual 145, 3) := by decide +kernel
theorem dX2_firstToGoFrom_35 : decode cX2_firstToGoFrom 35 = .ok (.ifCond .gt 23, 3) := by decide +kernel
theorem dX2_firstToGoFrom_38 : decode cX2_firstToGoFrom 38 = .ok (.iload_n 2, 1) := by decide +kernel
theorem dX2_firstToGoFrom_39 : decode cX2_firstToGoFrom 39 = .ok (.iconst (-1), 1) := by decide +kernel
theorem dX2_firstToGoFrom_40 : decode cX2_firstToGoFrom 40 = .ok (.if_icmp .eq 16, 3) := by decide +kernel
theorem dX2_firstToGoFrom_43 : decode cX2_firstToGoFrom 43 = .ok (.aload_n 0, 1) := by decide +kernel
theorem dX2_firstToGoFrom_44 : decode cX2_firstToGoFrom 44 = .ok (.iload_n 3, 1) := by decide +kernel
theorem dX2_firstToGoFrom_45 : decode cX2_firstToGoFrom 45 = .ok (.invokevirtual 127, 3) := by decide +kernel
theorem dX2_firstToGoFrom_48 : decode cX2_firstToGoFrom 48 = .ok (.aload_n 0, 1) := by decide +kernel
theorem dX2_firstToGoFrom_49 : decode cX2_firstToGoFrom 49 = .ok (.iload_n 2, 1) := by decide +kernel
theorem dX2_firstToGoFrom_50 : decode cX2_firstToGoFrom 50 = .ok (.invokevirtual 127, 3) := by decide +kernel
theorem dX2_firstToGoFrom_53 : decode cX2_firstToGoFrom 53 = .ok (.if_icmp .le 5, 3) := by decide +kernel
theorem dX2_firstToGoFrom_56 : decode cX2_firstToGoFrom 56 = .ok (.iload_n 3, 1) := by decide +kernel
theorem dX2_firstToGoFrom_57 : decode cX2_firstToGoFrom 57 = .ok (.istore_n 2, 1) := by decide +kernel
theorem dX2_firstToGoFrom_58 : decode cX2_firstToGoFrom 58 = .ok (.iinc 3 1, 3) := by decide +kernel
theorem dX2_firstToGoFrom_61 : decode cX2_firstToGoFrom 61 = .ok (.goto (-57), 3) := by decide +kernel
theorem dX2_firstToGoFrom_64 : decode cX2_firstToGoFrom 64 = .ok (.iload_n 2, 1) := by decide +kernel
theorem dX2_firstToGoFrom_65 : decode cX2_firstToGoFrom 65 = .ok (.ireturn, 1) := by decide +kernel
theorem dX2_wrongOf_0 : decode cX2_wrongOf 0 = .ok (.iconst 0, 1) := by decide +kernel
theorem dX2_wrongOf_1 : decode cX2_wrongOf 1 = .ok (.iload 4, 2) := by decide +kernel
theorem dX2_wrongOf_3 : decode cX2_wrongOf 3 = .ok (.iload_n 1, 1) := by decide +kernel
theorem dX2_wrongOf_4 : decode cX2_wrongOf 4 = .ok (.imul, 1) := by decide +kernel
theorem dX2_wrongOf_5 : decode cX2_wrongOf 5 = .ok (.iconst 3, 1) := by decide +kernel
theorem dX2_wrongOf_6 : decode cX2_wrongOf 6 = .ok (.aload_n 0, 1) := by decide +kernel
theorem dX2_wrongOf_7 : decode cX2_wrongOf 7 = .ok (.getfield 16, 3) := by decide +kernel
theorem dX2_wrongOf_10 : decode cX2_wrongOf 10 = .ok (.iload_n 2, 1) := by decide +kernel
theorem dX2_wrongOf_11 : decode cX2_wrongOf 11 = .ok (.iconst 1, 1) := by decide +kernel
theorem dX2_wrongOf_12 : decode cX2_wrongOf 12 = .ok (.invokevirtual 66, 3) := by decide +kernel
theorem dX2_wrongOf_15 : decode cX2_wrongOf 15 = .ok (.imul, 1) := by decide +kernel
theorem dX2_wrongOf_16 : decode cX2_wrongOf 16 = .ok (.isub, 1) := by decide +kernel
theorem dX2_wrongOf_17 : decode cX2_wrongOf 17 = .ok (.invokestatic 113, 3) := by decide +kernel
theorem dX2_wrongOf_20 : decode cX2_wrongOf 20 = .ok (.istore 5, 2) := by decide +kernel
theorem dX2_wrongOf_22 : decode cX2_wrongOf 22 = .ok (.iload 5, 2) := by decide +kernel
theorem dX2_wrongOf_24 : decode cX2_wrongOf 24 = .ok (.bipush 10, 2) := by decide +kernel
theorem dX2_wrongOf_26 : decode cX2_wrongOf 26 = .ok (.idiv, 1) := by decide +kernel
theorem dX2_wrongOf_27 : decode cX2_wrongOf 27 = .ok (.iload_n 3, 1) := by decide +kernel
theorem dX2_wrongOf_28 : decode cX2_wrongOf 28 = .ok (.invokestatic 148, 3) := by decide +kernel
theorem dX2_wrongOf_31 : decode cX2_wrongOf 31 = .ok (.ireturn, 1) := by decide +kernel
theorem dX3_init_0 : decode cX3_init 0 = .ok (.aload_n 0, 1) := by decide +kernel
theorem dX3_init_1 : decode cX3_init 1 = .ok (.invokespecial 3, 3) := by decide +kernel
theorem dX3_init_4 : decode cX3_init 4 = .ok (.aload_n 0, 1) := by decide +kernel
theorem dX3_init_5 : decode cX3_init 5 = .ok (.new 9, 3) := by decide +kernel
theorem dX3_init_8 : decode cX3_init 8 = .ok (.dup, 1) := by decide +kernel
theorem dX3_init_9 : decode cX3_init 9 = .ok (.bipush 10, 2) := by decide +kernel
theorem dX3_init_11 : decode cX3_init 11 = .ok (.bipush 10, 2) := by decide +kernel
theorem dX3_init_13 : decode cX3_init 13 = .ok (.invokespecial 11, 3) := by decide +kernel
theorem dX3_init_16 : decode cX3_init 16 = .ok (.putfield 14, 3) := by decide +kernel
theorem dX3_init_19 : decode cX3_init 19 = .ok (.aload_n 0, 1) := by decide +kernel
theorem dX3_init_20 : decode cX3_init 20 = .ok (.new 9, 3) := by decide +kernel
theorem dX3_init_23 : decode cX3_init 23 = .ok (.dup, 1) := by decide +kernel
theorem dX3_init_24 : decode cX3_init 24 = .ok (.bipush 10, 2) := by decide +kernel
theorem dX3_init_26 : decode cX3_init 26 = .ok (.bipush 10, 2) := by decide +kernel
theorem dX3_init_28 : decode cX3_init 28 = .ok (.invokespecial 11, 3) := by decide +kernel
theorem dX3_init_31 : decode cX3_init 31 = .ok (.putfield 20, 3) := by decide +kernel
theorem dX3_init_34 : decode cX3_init 34 = .ok (.aload_n 0, 1) := by decide +kernel
theorem dX3_init_35 : decode cX3_init 35 = .ok (.new 9, 3) := by decide +kernel
theorem dX3_init_38 : decode cX3_init 38 = .ok (.dup, 1) := by decide +kernel
theorem dX3_init_39 : decode cX3_init 39 = .ok (.bipush 10, 2) := by decide +kernel
theorem dX3_init_41 : decode cX3_init 41 = .ok (.bipush 10, 2) := by decide +kernel
theorem dX3_init_43 : decode cX3_init 43 = .ok (.invokespecial 11, 3) := by decide +kernel
theorem dX3_init_46 : decode cX3_init 46 = .ok (.putfield 23, 3) := by decide +kernel
theorem dX3_init_49 : decode cX3_init 49 = .ok (.return_, 1) := by decide +kernel
theorem dX3_copyFrom_0 : decode cX3_copyFrom 0 = .ok (.aload_n 0, 1) := by decide +kernel
theorem dX3_copyFrom_1 : decode cX3_copyFrom 1 = .ok (.getfield 14, 3) := by decide +kernel
theorem dX3_copyFrom_4 : decode cX3_copyFrom 4 = .ok (.aload_n 1, 1) := by decide +kernel
theorem dX3_copyFrom_5 : decode cX3_copyFrom 5 = .ok (.getfield 14, 3) := by decide +kernel
theorem dX3_copyFrom_8 : decode cX3_copyFrom 8 = .ok (.invokevirtual 26, 3) := by decide +kernel
theorem dX3_copyFrom_11 : decode cX3_copyFrom 11 = .ok (.aload_n 0, 1) := by decide +kernel
theorem dX3_copyFrom_12 : decode cX3_copyFrom 12 = .ok (.getfield 20, 3) := by decide +kernel
theorem dX3_copyFrom_15 : decode cX3_copyFrom 15 = .ok (.aload_n 1, 1) := by decide +kernel
theorem dX3_copyFrom_16 : decode cX3_copyFrom 16 = .ok (.getfield 20, 3) := by decide +kernel
theorem dX3_copyFrom_19 : decode cX3_copyFrom 19 = .ok (.invokevirtual 26, 3) := by decide +kernel
theorem dX3_copyFrom_22 : decode cX3_copyFrom 22 = .ok (.aload_n 0, 1) := by decide +kernel
theorem dX3_copyFrom_23 : decode cX3_copyFrom 23 = .ok (.getfield 23, 3) := by decide +kernel
theorem dX3_copyFrom_26 : decode cX3_copyFrom 26 = .ok (.aload_n 1, 1) := by decide +kernel
theorem dX3_copyFrom_27 : decode cX3_copyFrom 27 = .ok (.getfield 23, 3) := by decide +kernel
theorem dX3_copyFrom_30 : decode cX3_copyFrom 30 = .ok (.invokevirtual 26, 3) := by decide +kernel
theorem dX3_copyFrom_33 : decode cX3_copyFrom 33 = .ok (.return_, 1) := by decide +kernel
theorem dX3_lay_0 : decode cX3_lay 0 = .ok (.aload_n 0, 1) := by decide +kernel
theorem dX3_lay_1 : decode cX3_lay 1 = .ok (.aload_n 1, 1) := by decide +kernel
theorem dX3_lay_2 : decode cX3_lay 2 = .ok (.invokevirtual 30, 3) := by decide +kernel
theorem dX3_lay_5 : decode cX3_lay 5 = .ok (.iconst 0, 1) := by decide +kernel
theorem dX3_lay_6 : decode cX3_lay 6 = .ok (.istore_n 2, 1) := by decide +kernel
theorem dX3_lay_7 : decode cX3_lay 7 = .ok (.iload_n 2, 1) := by decide +kernel
theorem dX3_lay_8 : decode cX3_lay 8 = .ok (.aload_n 1, 1) := by decide +kernel
theorem dX3_lay_9 : decode cX3_lay 9 = .ok (.getfield 34, 3) := by decide +kernel
theorem dX3_lay_12 : decode cX3_lay 12 = .ok (.if_icmp .ge 40, 3) := by decide +kernel
theorem dX3_lay_15 : decode cX3_lay 15 = .ok (.aload_n 0, 1) := by decide +kernel
theorem dX3_lay_16 : decode cX3_lay 16 = .ok (.aload_n 1, 1) := by decide +kernel
theorem dX3_lay_17 : decode cX3_lay 17 = .ok (.getfield 40, 3) := by decide +kernel
theorem dX3_lay_20 : decode cX3_lay 20 = .ok (.iload_n 2, 1) := by decide +kernel
theorem dX3_lay_21 : decode cX3_lay 21 = .ok (.iconst 0, 1) := by decide +kernel
theorem dX3_lay_22 : decode cX3_lay 22 = .ok (.invokevirtual 43, 3) := by decide +kernel
theorem dX3_lay_25 : decode cX3_lay 25 = .ok (.aload_n 1, 1) := by decide +kernel
theorem dX3_lay_26 : decode cX3_lay 26 = .ok (.getfield 40, 3) := by decide +kernel
theorem dX3_lay_29 : decode cX3_lay 29 = .ok (.iload_n 2, 1) := by decide +kernel
theorem dX3_lay_30 : decode cX3_lay 30 = .ok (.iconst 1, 1) := by decide +kernel
theorem dX3_lay_31 : decode cX3_lay 31 = .ok (.invokevirtual 43, 3) := by decide +kernel
theorem dX3_lay_34 : decode cX3_lay 34 = .ok (.aload_n 1, 1) := by decide +kernel
theorem dX3_lay_35 : decode cX3_lay 35 = .ok (.getfield 40, 3) := by decide +kernel
theorem dX3_lay_38 : decode cX3_lay 38 = .ok (.iload_n 2, 1) := by decide +kernel
theorem dX3_lay_39 : decode cX3_lay 39 = .ok (.iconst 2, 1) := by decide +kernel
theorem dX3_lay_40 : decode cX3_lay 40 = .ok (.invokevirtual 43, 3) := by decide +kernel
theorem dX3_lay_43 : decode cX3_lay 43 = .ok (.invokevirtual 47, 3) := by decide +kernel
theorem dX3_lay_46 : decode cX3_lay 46 = .ok (.iinc 2 1, 3) := by decide +kernel
theorem dX3_lay_49 : decode cX3_lay 49 = .ok (.goto (-42), 3) := by decide +kernel
theorem dX3_lay_52 : decode cX3_lay 52 = .ok (.iconst 0, 1) := by decide +kernel
theorem dX3_lay_53 : decode cX3_lay 53 = .ok (.istore_n 2, 1) := by decide +kernel
theorem dX3_lay_54 : decode cX3_lay 54 = .ok (.iload_n 2, 1) := by decide +kernel
theorem dX3_lay_55 : decode cX3_lay 55 = .ok (.aload_n 1, 1) := by decide +kernel
theorem dX3_lay_56 : decode cX3_lay 56 = .ok (.getfield 51, 3) := by decide +kernel
theorem dX3_lay_59 : decode cX3_lay 59 = .ok (.if_icmp .ge 70, 3) := by decide +kernel
theorem dX3_lay_62 : decode cX3_lay 62 = .ok (.iconst 0, 1) := by decide +kernel
theorem dX3_lay_63 : decode cX3_lay 63 = .ok (.istore_n 3, 1) := by decide +kernel
theorem dX3_lay_64 : decode cX3_lay 64 = .ok (.iload_n 3, 1) := by decide +kernel
theorem dX3_lay_65 : decode cX3_lay 65 = .ok (.aload_n 1, 1) := by decide +kernel
theorem dX3_lay_66 : decode cX3_lay 66 = .ok (.getfield 51, 3) := by decide +kernel
theorem dX3_lay_69 : decode cX3_lay 69 = .ok (.if_icmp .ge 54, 3) := by decide +kernel
theorem dX3_lay_72 : decode cX3_lay 72 = .ok (.iconst 0, 1) := by decide +kernel
theorem dX3_lay_73 : decode cX3_lay 73 = .ok (.istore 4, 2) := by decide +kernel
theorem dX3_lay_75 : decode cX3_lay 75 = .ok (.iload 4, 2) := by decide +kernel
theorem dX3_lay_77 : decode cX3_lay 77 = .ok (.aload_n 1, 1) := by decide +kernel
theorem dX3_lay_78 : decode cX3_lay 78 = .ok (.getfield 51, 3) := by decide +kernel
theorem dX3_lay_81 : decode cX3_lay 81 = .ok (.if_icmp .ge 36, 3) := by decide +kernel
theorem dX3_lay_84 : decode cX3_lay 84 = .ok (.aload_n 0, 1) := by decide +kernel
theorem dX3_lay_85 : decode cX3_lay 85 = .ok (.iload_n 3, 1) := by decide +kernel
theorem dX3_lay_86 : decode cX3_lay 86 = .ok (.iload 4, 2) := by decide +kernel
theorem dX3_lay_88 : decode cX3_lay 88 = .ok (.aload_n 0, 1) := by decide +kernel
theorem dX3_lay_89 : decode cX3_lay 89 = .ok (.getfield 20, 3) := by decide +kernel
theorem dX3_lay_92 : decode cX3_lay 92 = .ok (.iload_n 3, 1) := by decide +kernel
theorem dX3_lay_93 : decode cX3_lay 93 = .ok (.iload_n 2, 1) := by decide +kernel
theorem dX3_lay_94 : decode cX3_lay 94 = .ok (.invokevirtual 43, 3) := by decide +kernel
theorem dX3_lay_97 : decode cX3_lay 97 = .ok (.aload_n 0, 1) := by decide +kernel
theorem dX3_lay_98 : decode cX3_lay 98 = .ok (.getfield 20, 3) := by decide +kernel
theorem dX3_lay_101 : decode cX3_lay 101 = .ok (.iload_n 2, 1) := by decide +kernel
theorem dX3_lay_102 : decode cX3_lay 102 = .ok (.iload 4, 2) := by decide +kernel
theorem dX3_lay_104 : decode cX3_lay 104 = .ok (.invokevirtual 43, 3) := by decide +kernel
theorem dX3_lay_107 : decode cX3_lay 107 = .ok (.iadd, 1) := by decide +kernel
theorem dX3_lay_108 : decode cX3_lay 108 = .ok (.invokevirtual 54, 3) := by decide +kernel
theorem dX3_lay_111 : decode cX3_lay 111 = .ok (.iinc 4 1, 3) := by decide +kernel
theorem dX3_lay_114 : decode cX3_lay 114 = .ok (.goto (-39), 3) := by decide +kernel
theorem dX3_lay_117 : decode cX3_lay 117 = .ok (.iinc 3 1, 3) := by decide +kernel
theorem dX3_lay_120 : decode cX3_lay 120 = .ok (.goto (-56), 3) := by decide +kernel
theorem dX3_lay_123 : decode cX3_lay 123 = .ok (.iinc 2 1, 3) := by decide +kernel
theorem dX3_lay_126 : decode cX3_lay 126 = .ok (.goto (-72), 3) := by decide +kernel
theorem dX3_lay_129 : decode cX3_lay 129 = .ok (.aload_n 0, 1) := by decide +kernel
theorem dX3_lay_130 : decode cX3_lay 130 = .ok (.aload_n 1, 1) := by decide +kernel
theorem dX3_lay_131 : decode cX3_lay 131 = .ok (.invokevirtual 57, 3) := by decide +kernel
theorem dX3_lay_134 : decode cX3_lay 134 = .ok (.return_, 1) := by decide +kernel
theorem dX3_sumByWays_0 : decode cX3_sumByWays 0 = .ok (.aload_n 0, 1) := by decide +kernel
theorem dX3_sumByWays_1 : decode cX3_sumByWays 1 = .ok (.aload_n 1, 1) := by decide +kernel
theorem dX3_sumByWays_2 : decode cX3_sumByWays 2 = .ok (.invokevirtual 30, 3) := by decide +kernel
theorem dX3_sumByWays_5 : decode cX3_sumByWays 5 = .ok (.iconst 1, 1) := by decide +kernel
theorem dX3_sumByWays_6 : decode cX3_sumByWays 6 = .ok (.istore_n 2, 1) := by decide +kernel
theorem dX3_sumByWays_7 : decode cX3_sumByWays 7 = .ok (.iload_n 2, 1) := by decide +kernel
theorem dX3_sumByWays_8 : decode cX3_sumByWays 8 = .ok (.aload_n 1, 1) := by decide +kernel
theorem dX3_sumByWays_9 : decode cX3_sumByWays 9 = .ok (.getfield 51, 3) := by decide +kernel
theorem dX3_sumByWays_12 : decode cX3_sumByWays 12 = .ok (.if_icmp .ge 120, 3) := by decide +kernel
theorem dX3_sumByWays_15 : decode cX3_sumByWays 15 = .ok (.iconst 0, 1) := by decide +kernel
theorem dX3_sumByWays_16 : decode cX3_sumByWays 16 = .ok (.istore_n 3, 1) := by decide +kernel
theorem dX3_sumByWays_17 : decode cX3_sumByWays 17 = .ok (.iload_n 3, 1) := by decide +kernel
theorem dX3_sumByWays_18 : decode cX3_sumByWays 18 = .ok (.aload_n 1, 1) := by decide +kernel
theorem dX3_sumByWays_19 : decode cX3_sumByWays 19 = .ok (.getfield 34, 3) := by decide +kernel
theorem dX3_sumByWays_22 : decode cX3_sumByWays 22 = .ok (.if_icmp .ge 104, 3) := by decide +kernel
theorem dX3_sumByWays_25 : decode cX3_sumByWays 25 = .ok (.aload_n 1, 1) := by decide +kernel
theorem dX3_sumByWays_26 : decode cX3_sumByWays 26 = .ok (.getfield 40, 3) := by decide +kernel
theorem dX3_sumByWays_29 : decode cX3_sumByWays 29 = .ok (.iload_n 3, 1) := by decide +kernel
theorem dX3_sumByWays_30 : decode cX3_sumByWays 30 = .ok (.iconst 0, 1) := by decide +kernel
theorem dX3_sumByWays_31 : decode cX3_sumByWays 31 = .ok (.invokevirtual 43, 3) := by decide +kernel
theorem dX3_sumByWays_34 : decode cX3_sumByWays 34 = .ok (.istore 4, 2) := by decide +kernel
theorem dX3_sumByWays_36 : decode cX3_sumByWays 36 = .ok (.aload_n 1, 1) := by decide +kernel
theorem dX3_sumByWays_37 : decode cX3_sumByWays 37 = .ok (.getfield 40, 3) := by decide +kernel
theorem dX3_sumByWays_40 : decode cX3_sumByWays 40 = .ok (.iload_n 3, 1) := by decide +kernel
theorem dX3_sumByWays_41 : decode cX3_sumByWays 41 = .ok (.iconst 1, 1) := by decide +kernel
theorem dX3_sumByWays_42 : decode cX3_sumByWays 42 = .ok (.invokevirtual 43, 3) := by decide +kernel
theorem dX3_sumByWays_45 : decode cX3_sumByWays 45 = .ok (.istore 5, 2) := by decide +kernel
theorem dX3_sumByWays_47 : decode cX3_sumByWays 47 = .ok (.aload_n 1, 1) := by decide +kernel
theorem dX3_sumByWays_48 : decode cX3_sumByWays 48 = .ok (.getfield 40, 3) := by decide +kernel
theorem dX3_sumByWays_51 : decode cX3_sumByWays 51 = .ok (.iload_n 3, 1) := by decide +kernel
theorem dX3_sumByWays_52 : decode cX3_sumByWays 52 = .ok (.iconst 2, 1) := by decide +kernel
theorem dX3_sumByWays_53 : decode cX3_sumByWays 53 = .ok (.invokevirtual 43, 3) := by decide +kernel
theorem dX3_sumByWays_56 : decode cX3_sumByWays 56 = .ok (.istore 6, 2) := by decide +kernel
theorem dX3_sumByWays_58 : decode cX3_sumByWays 58 = .ok (.iconst 0, 1) := by decide +kernel
theorem dX3_sumByWays_59 : decode cX3_sumByWays 59 = .ok (.istore 7, 2) := by decide +kernel
theorem dX3_sumByWays_61 : decode cX3_sumByWays 61 = .ok (.iload 7, 2) := by decide +kernel
theorem dX3_sumByWays_63 : decode cX3_sumByWays 63 = .ok (.aload_n 1, 1) := by decide +kernel
theorem dX3_sumByWays_64 : decode cX3_sumByWays 64 = .ok (.getfield 51, 3) := by decide +kernel
theorem dX3_sumByWays_67 : decode cX3_sumByWays 67 = .ok (.if_icmp .ge 53, 3) := by decide +kernel
theorem dX3_sumByWays_70 : decode cX3_sumByWays 70 = .ok (.aload_n 0, 1) := by decide +kernel
theorem dX3_sumByWays_71 : decode cX3_sumByWays 71 = .ok (.iload 7, 2) := by decide +kernel
theorem dX3_sumByWays_73 : decode cX3_sumByWays 73 = .ok (.iload 4, 2) := by decide +kernel
theorem dX3_sumByWays_75 : decode cX3_sumByWays 75 = .ok (.aload_n 0, 1) := by decide +kernel
theorem dX3_sumByWays_76 : decode cX3_sumByWays 76 = .ok (.getfield 20, 3) := by decide +kernel
theorem dX3_sumByWays_79 : decode cX3_sumByWays 79 = .ok (.iload 7, 2) := by decide +kernel
theorem dX3_sumByWays_81 : decode cX3_sumByWays 81 = .ok (.iload 5, 2) := by decide +kernel
theorem dX3_sumByWays_83 : decode cX3_sumByWays 83 = .ok (.invokevirtual 43, 3) := by decide +kernel
theorem dX3_sumByWays_86 : decode cX3_sumByWays 86 = .ok (.iload 6, 2) := by decide +kernel
theorem dX3_sumByWays_88 : decode cX3_sumByWays 88 = .ok (.iadd, 1) := by decide +kernel
theorem dX3_sumByWays_89 : decode cX3_sumByWays 89 = .ok (.invokevirtual 54, 3) := by decide +kernel
theorem dX3_sumByWays_92 : decode cX3_sumByWays 92 = .ok (.aload_n 0, 1) := by decide +kernel
theorem dX3_sumByWays_93 : decode cX3_sumByWays 93 = .ok (.iload 7, 2) := by decide +kernel
theorem dX3_sumByWays_95 : decode cX3_sumByWays 95 = .ok (.iload 5, 2) := by decide +kernel
theorem dX3_sumByWays_97 : decode cX3_sumByWays 97 = .ok (.aload_n 0, 1) := by decide +kernel
theorem dX3_sumByWays_98 : decode cX3_sumByWays 98 = .ok (.getfield 20, 3) := by decide +kernel
theorem dX3_sumByWays_101 : decode cX3_sumByWays 101 = .ok (.iload 7, 2) := by decide +kernel
theorem dX3_sumByWays_103 : decode cX3_sumByWays 103 = .ok (.iload 4, 2) := by decide +kernel
theorem dX3_sumByWays_105 : decode cX3_sumByWays 105 = .ok (.invokevirtual 43, 3) := by decide +kernel
theorem dX3_sumByWays_108 : decode cX3_sumByWays 108 = .ok (.iload 6, 2) := by decide +kernel
theorem dX3_sumByWays_110 : decode cX3_sumByWays 110 = .ok (.iadd, 1) := by decide +kernel
theorem dX3_sumByWays_111 : decode cX3_sumByWays 111 = .ok (.invokevirtual 54, 3) := by decide +kernel
theorem dX3_sumByWays_114 : decode cX3_sumByWays 114 = .ok (.iinc 7 1, 3) := by decide +kernel
theorem dX3_sumByWays_117 : decode cX3_sumByWays 117 = .ok (.goto (-56), 3) := by decide +kernel
theorem dX3_sumByWays_120 : decode cX3_sumByWays 120 = .ok (.iinc 3 1, 3) := by decide +kernel
theorem dX3_sumByWays_123 : decode cX3_sumByWays 123 = .ok (.goto (-106), 3) := by decide +kernel
theorem dX3_sumByWays_126 : decode cX3_sumByWays 126 = .ok (.iinc 2 1, 3) := by decide +kernel
theorem dX3_sumByWays_129 : decode cX3_sumByWays 129 = .ok (.goto (-122), 3) := by decide +kernel
theorem dX3_sumByWays_132 : decode cX3_sumByWays 132 = .ok (.return_, 1) := by decide +kernel
theorem dX3_layNone_0 : decode cX3_layNone 0 = .ok (.aload_n 0, 1) := by decide +kernel
theorem dX3_layNone_1 : decode cX3_layNone 1 = .ok (.getfield 14, 3) := by decide +kernel
theorem dX3_layNone_4 : decode cX3_layNone 4 = .ok (.iconst (-1), 1) := by decide +kernel
theorem dX3_layNone_5 : decode cX3_layNone 5 = .ok (.invokevirtual 60, 3) := by decide +kernel
theorem dX3_layNone_8 : decode cX3_layNone 8 = .ok (.aload_n 0, 1) := by decide +kernel
theorem dX3_layNone_9 : decode cX3_layNone 9 = .ok (.getfield 20, 3) := by decide +kernel
theorem dX3_layNone_12 : decode cX3_layNone 12 = .ok (.sipush 9999, 3) := by decide +kernel
theorem dX3_layNone_15 : decode cX3_layNone 15 = .ok (.invokevirtual 60, 3) := by decide +kernel
theorem dX3_layNone_18 : decode cX3_layNone 18 = .ok (.aload_n 0, 1) := by decide +kernel
theorem dX3_layNone_19 : decode cX3_layNone 19 = .ok (.getfield 23, 3) := by decide +kernel
theorem dX3_layNone_22 : decode cX3_layNone 22 = .ok (.iconst (-1), 1) := by decide +kernel
theorem dX3_layNone_23 : decode cX3_layNone 23 = .ok (.invokevirtual 60, 3) := by decide +kernel
theorem dX3_layNone_26 : decode cX3_layNone 26 = .ok (.iconst 0, 1) := by decide +kernel
theorem dX3_layNone_27 : decode cX3_layNone 27 = .ok (.istore_n 2, 1) := by decide +kernel
theorem dX3_layNone_28 : decode cX3_layNone 28 = .ok (.iload_n 2, 1) := by decide +kernel
theorem dX3_layNone_29 : decode cX3_layNone 29 = .ok (.aload_n 1, 1) := by decide +kernel
theorem dX3_layNone_30 : decode cX3_layNone 30 = .ok (.getfield 51, 3) := by decide +kernel
theorem dX3_layNone_33 : decode cX3_layNone 33 = .ok (.if_icmp .ge 19, 3) := by decide +kernel
theorem dX3_layNone_36 : decode cX3_layNone 36 = .ok (.aload_n 0, 1) := by decide +kernel
theorem dX3_layNone_37 : decode cX3_layNone 37 = .ok (.getfield 20, 3) := by decide +kernel
theorem dX3_layNone_40 : decode cX3_layNone 40 = .ok (.iload_n 2, 1) := by decide +kernel
theorem dX3_layNone_41 : decode cX3_layNone 41 = .ok (.iload_n 2, 1) := by decide +kernel
theorem dX3_layNone_42 : decode cX3_layNone 42 = .ok (.iconst 0, 1) := by decide +kernel
theorem dX3_layNone_43 : decode cX3_layNone 43 = .ok (.invokevirtual 64, 3) := by decide +kernel
theorem dX3_layNone_46 : decode cX3_layNone 46 = .ok (.iinc 2 1, 3) := by decide +kernel
theorem dX3_layNone_49 : decode cX3_layNone 49 = .ok (.goto (-21), 3) := by decide +kernel
theorem dX3_layNone_52 : decode cX3_layNone 52 = .ok (.return_, 1) := by decide +kernel
theorem dX3_layWay_0 : decode cX3_layWay 0 = .ok (.aload_n 0, 1) := by decide +kernel
theorem dX3_layWay_1 : decode cX3_layWay 1 = .ok (.getfield 14, 3) := by decide +kernel
theorem dX3_layWay_4 : decode cX3_layWay 4 = .ok (.iload_n 1, 1) := by decide +kernel
theorem dX3_layWay_5 : decode cX3_layWay 5 = .ok (.iload_n 2, 1) := by decide +kernel
theorem dX3_layWay_6 : decode cX3_layWay 6 = .ok (.iload_n 3, 1) := by decide +kernel
theorem dX3_layWay_7 : decode cX3_layWay 7 = .ok (.invokevirtual 64, 3) := by decide +kernel
theorem dX3_layWay_10 : decode cX3_layWay 10 = .ok (.aload_n 0, 1) := by decide +kernel
theorem dX3_layWay_11 : decode cX3_layWay 11 = .ok (.getfield 14, 3) := by decide +kernel
theorem dX3_layWay_14 : decode cX3_layWay 14 = .ok (.iload_n 2, 1) := by decide +kernel
theorem dX3_layWay_15 : decode cX3_layWay 15 = .ok (.iload_n 1, 1) := by decide +kernel
theorem dX3_layWay_16 : decode cX3_layWay 16 = .ok (.iload_n 3, 1) := by decide +kernel
theorem dX3_layWay_17 : decode cX3_layWay 17 = .ok (.invokevirtual 64, 3) := by decide +kernel
theorem dX3_layWay_20 : decode cX3_layWay 20 = .ok (.aload_n 0, 1) := by decide +kernel
theorem dX3_layWay_21 : decode cX3_layWay 21 = .ok (.getfield 20, 3) := by decide +kernel
theorem dX3_layWay_24 : decode cX3_layWay 24 = .ok (.iload_n 1, 1) := by decide +kernel
theorem dX3_layWay_25 : decode cX3_layWay 25 = .ok (.iload_n 2, 1) := by decide +kernel
theorem dX3_layWay_26 : decode cX3_layWay 26 = .ok (.iload_n 3, 1) := by decide +kernel
theorem dX3_layWay_27 : decode cX3_layWay 27 = .ok (.invokevirtual 64, 3) := by decide +kernel
theorem dX3_layWay_30 : decode cX3_layWay 30 = .ok (.aload_n 0, 1) := by decide +kernel
theorem dX3_layWay_31 : decode cX3_layWay 31 = .ok (.getfield 20, 3) := by decide +kernel
theorem dX3_layWay_34 : decode cX3_layWay 34 = .ok (.iload_n 2, 1) := by decide +kernel
theorem dX3_layWay_35 : decode cX3_layWay 35 = .ok (.iload_n 1, 1) := by decide +kernel
theorem dX3_layWay_36 : decode cX3_layWay 36 = .ok (.iload_n 3, 1) := by decide +kernel
theorem dX3_layWay_37 : decode cX3_layWay 37 = .ok (.invokevirtual 64, 3) := by decide +kernel
theorem dX3_layWay_40 : decode cX3_layWay 40 = .ok (.return_, 1) := by decide +kernel
theorem dX3_shorten_0 : decode cX3_shorten 0 = .ok (.iload_n 3, 1) := by decide +kernel
theorem dX3_shorten_1 : decode cX3_shorten 1 = .ok (.aload_n 0, 1) := by decide +kernel
theorem dX3_shorten_2 : decode cX3_shorten 2 = .ok (.getfield 20, 3) := by decide +kernel
theorem dX3_shorten_5 : decode cX3_shorten 5 = .ok (.iload_n 1, 1) := by decide +kernel
theorem dX3_shorten_6 : decode cX3_shorten 6 = .ok (.iload_n 2, 1) := by decide +kernel
theorem dX3_shorten_7 : decode cX3_shorten 7 = .ok (.invokevirtual 43, 3) := by decide +kernel
theorem dX3_shorten_10 : decode cX3_shorten 10 = .ok (.if_icmp .ge 13, 3) := by decide +kernel
theorem dX3_shorten_13 : decode cX3_shorten 13 = .ok (.aload_n 0, 1) := by decide +kernel
theorem dX3_shorten_14 : decode cX3_shorten 14 = .ok (.getfield 20, 3) := by decide +kernel
theorem dX3_shorten_17 : decode cX3_shorten 17 = .ok (.iload_n 1, 1) := by decide +kernel
theorem dX3_shorten_18 : decode cX3_shorten 18 = .ok (.iload_n 2, 1) := by decide +kernel
theorem dX3_shorten_19 : decode cX3_shorten 19 = .ok (.iload_n 3, 1) := by decide +kernel
theorem dX3_shorten_20 : decode cX3_shorten 20 = .ok (.invokevirtual 64, 3) := by decide +kernel
theorem dX3_shorten_23 : decode cX3_shorten 23 = .ok (.return_, 1) := by decide +kernel
theorem dX3_pointAll_0 : decode cX3_pointAll 0 = .ok (.iconst 0, 1) := by decide +kernel
theorem dX3_pointAll_1 : decode cX3_pointAll 1 = .ok (.istore_n 2, 1) := by decide +kernel
theorem dX3_pointAll_2 : decode cX3_pointAll 2 = .ok (.iload_n 2, 1) := by decide +kernel
theorem dX3_pointAll_3 : decode cX3_pointAll 3 = .ok (.aload_n 1, 1) := by decide +kernel
theorem dX3_pointAll_4 : decode cX3_pointAll 4 = .ok (.getfield 51, 3) := by decide +kernel
theorem dX3_pointAll_7 : decode cX3_pointAll 7 = .ok (.if_icmp .ge 60, 3) := by decide +kernel
theorem dX3_pointAll_10 : decode cX3_pointAll 10 = .ok (.iconst 0, 1) := by decide +kernel
theorem dX3_pointAll_11 : decode cX3_pointAll 11 = .ok (.istore_n 3, 1) := by decide +kernel
theorem dX3_pointAll_12 : decode cX3_pointAll 12 = .ok (.iload_n 3, 1) := by decide +kernel
theorem dX3_pointAll_13 : decode cX3_pointAll 13 = .ok (.aload_n 1, 1) := by decide +kernel
theorem dX3_pointAll_14 : decode cX3_pointAll 14 = .ok (.getfield 51, 3) := by decide +kernel
theorem dX3_pointAll_17 : decode cX3_pointAll 17 = .ok (.if_icmp .ge 44, 3) := by decide +kernel
theorem dX3_pointAll_20 : decode cX3_pointAll 20 = .ok (.iload_n 2, 1) := by decide +kernel
theorem dX3_pointAll_21 : decode cX3_pointAll 21 = .ok (.iload_n 3, 1) := by decide +kernel
theorem dX3_pointAll_22 : decode cX3_pointAll 22 = .ok (.if_icmp .eq 33, 3) := by decide +kernel
theorem dX3_pointAll_25 : decode cX3_pointAll 25 = .ok (.aload_n 0, 1) := by decide +kernel
theorem dX3_pointAll_26 : decode cX3_pointAll 26 = .ok (.getfield 20, 3) := by decide +kernel
theorem dX3_pointAll_29 : decode cX3_pointAll 29 = .ok (.iload_n 2, 1) := by decide +kernel
theorem dX3_pointAll_30 : decode cX3_pointAll 30 = .ok (.iload_n 3, 1) := by decide +kernel
theorem dX3_pointAll_31 : decode cX3_pointAll 31 = .ok (.invokevirtual 43, 3) := by decide +kernel
theorem dX3_pointAll_34 : decode cX3_pointAll 34 = .ok (.sipush 9999, 3) := by decide +kernel
theorem dX3_pointAll_37 : decode cX3_pointAll 37 = .ok (.if_icmp .ge 18, 3) := by decide +kernel
theorem dX3_pointAll_40 : decode cX3_pointAll 40 = .ok (.aload_n 0, 1) := by decide +kernel
theorem dX3_pointAll_41 : decode cX3_pointAll 41 = .ok (.getfield 23, 3) := by decide +kernel
theorem dX3_pointAll_44 : decode cX3_pointAll 44 = .ok (.iload_n 2, 1) := by decide +kernel
theorem dX3_pointAll_45 : decode cX3_pointAll 45 = .ok (.iload_n 3, 1) := by decide +kernel
theorem dX3_pointAll_46 : decode cX3_pointAll 46 = .ok (.aload_n 0, 1) := by decide +kernel
theorem dX3_pointAll_47 : decode cX3_pointAll 47 = .ok (.iload_n 2, 1) := by decide +kernel
theorem dX3_pointAll_48 : decode cX3_pointAll 48 = .ok (.iload_n 3, 1) := by decide +kernel
theorem dX3_pointAll_49 : decode cX3_pointAll 49 = .ok (.invokevirtual 67, 3) := by decide +kernel
theorem dX3_pointAll_52 : decode cX3_pointAll 52 = .ok (.invokevirtual 64, 3) := by decide +kernel
theorem dX3_pointAll_55 : decode cX3_pointAll 55 = .ok (.iinc 3 1, 3) := by decide +kernel
theorem dX3_pointAll_58 : decode cX3_pointAll 58 = .ok (.goto (-46), 3) := by decide +kernel
theorem dX3_pointAll_61 : decode cX3_pointAll 61 = .ok (.iinc 2 1, 3) := by decide +kernel
theorem dX3_pointAll_64 : decode cX3_pointAll 64 = .ok (.goto (-62), 3) := by decide +kernel
theorem dX3_pointAll_67 : decode cX3_pointAll 67 = .ok (.return_, 1) := by decide +kernel
theorem dX3_beginOf_0 : decode cX3_beginOf 0 = .ok (.iconst 0, 1) := by decide +kernel
theorem dX3_beginOf_1 : decode cX3_beginOf 1 = .ok (.istore_n 3, 1) := by decide +kernel
theorem dX3_beginOf_2 : decode cX3_beginOf 2 = .ok (.iload_n 3, 1) := by decide +kernel
theorem dX3_beginOf_3 : decode cX3_beginOf 3 = .ok (.bipush 10, 2) := by decide +kernel
theorem dX3_beginOf_5 : decode cX3_beginOf 5 = .ok (.if_icmp .ge 52, 3) := by decide +kernel
theorem dX3_beginOf_8 : decode cX3_beginOf 8 = .ok (.aload_n 0, 1) := by decide +kernel
theorem dX3_beginOf_9 : decode cX3_beginOf 9 = .ok (.getfield 14, 3) := by decide +kernel
theorem dX3_beginOf_12 : decode cX3_beginOf 12 = .ok (.iload_n 1, 1) := by decide +kernel
theorem dX3_beginOf_13 : decode cX3_beginOf 13 = .ok (.iload_n 3, 1) := by decide +kernel
theorem dX3_beginOf_14 : decode cX3_beginOf 14 = .ok (.invokevirtual 43, 3) := by decide +kernel
theorem dX3_beginOf_17 : decode cX3_beginOf 17 = .ok (.istore 4, 2) := by decide +kernel
theorem dX3_beginOf_19 : decode cX3_beginOf 19 = .ok (.iload 4, 2) := by decide +kernel
theorem dX3_beginOf_21 : decode cX3_beginOf 21 = .ok (.iconst (-1), 1) := by decide +kernel
theorem dX3_beginOf_22 : decode cX3_beginOf 22 = .ok (.if_icmp .eq 29, 3) := by decide +kernel
theorem dX3_beginOf_25 : decode cX3_beginOf 25 = .ok (.iload 4, 2) := by decide +kernel
theorem dX3_beginOf_27 : decode cX3_beginOf 27 = .ok (.aload_n 0, 1) := by decide +kernel
theorem dX3_beginOf_28 : decode cX3_beginOf 28 = .ok (.getfield 20, 3) := by decide +kernel
theorem dX3_beginOf_31 : decode cX3_beginOf 31 = .ok (.iload_n 3, 1) := by decide +kernel
theorem dX3_beginOf_32 : decode cX3_beginOf 32 = .ok (.iload_n 2, 1) := by decide +kernel
theorem dX3_beginOf_33 : decode cX3_beginOf 33 = .ok (.invokevirtual 43, 3) := by decide +kernel
theorem dX3_beginOf_36 : decode cX3_beginOf 36 = .ok (.iadd, 1) := by decide +kernel
theorem dX3_beginOf_37 : decode cX3_beginOf 37 = .ok (.aload_n 0, 1) := by decide +kernel
theorem dX3_beginOf_38 : decode cX3_beginOf 38 = .ok (.getfield 20, 3) := by decide +kernel
theorem dX3_beginOf_41 : decode cX3_beginOf 41 = .ok (.iload_n 1, 1) := by decide +kernel
theorem dX3_beginOf_42 : decode cX3_beginOf 42 = .ok (.iload_n 2, 1) := by decide +kernel
theorem dX3_beginOf_43 : decode cX3_beginOf 43 = .ok (.invokevirtual 43, 3) := by decide +kernel
theorem dX3_beginOf_46 : decode cX3_beginOf 46 = .ok (.if_icmp .ne 5, 3) := by decide +kernel
theorem dX3_beginOf_49 : decode cX3_beginOf 49 = .ok (.iload_n 3, 1) := by decide +kernel
theorem dX3_beginOf_50 : decode cX3_beginOf 50 = .ok (.ireturn, 1) := by decide +kernel
theorem dX3_beginOf_51 : decode cX3_beginOf 51 = .ok (.iinc 3 1, 3) := by decide +kernel
theorem dX3_beginOf_54 : decode cX3_beginOf 54 = .ok (.goto (-52), 3) := by decide +kernel
theorem dX3_beginOf_57 : decode cX3_beginOf 57 = .ok (.iconst (-1), 1) := by decide +kernel
theorem dX3_beginOf_58 : decode cX3_beginOf 58 = .ok (.ireturn, 1) := by decide +kernel
theorem dX3_hasSameSums_0 : decode cX3_hasSameSums 0 = .ok (.iconst 0, 1) := by decide +kernel
theorem dX3_hasSameSums_1 : decode cX3_hasSameSums 1 = .ok (.istore_n 3, 1) := by decide +kernel
theorem dX3_hasSameSums_2 : decode cX3_hasSameSums 2 = .ok (.iload_n 3, 1) := by decide +kernel
theorem dX3_hasSameSums_3 : decode cX3_hasSameSums 3 = .ok (.iload_n 2, 1) := by decide +kernel
theorem dX3_hasSameSums_4 : decode cX3_hasSameSums 4 = .ok (.if_icmp .ge 49, 3) := by decide +kernel
theorem dX3_hasSameSums_7 : decode cX3_hasSameSums 7 = .ok (.iconst 0, 1) := by decide +kernel
theorem dX3_hasSameSums_8 : decode cX3_hasSameSums 8 = .ok (.istore 4, 2) := by decide +kernel
theorem dX3_hasSameSums_10 : decode cX3_hasSameSums 10 = .ok (.iload 4, 2) := by decide +kernel
theorem dX3_hasSameSums_12 : decode cX3_hasSameSums 12 = .ok (.iload_n 2, 1) := by decide +kernel
theorem dX3_hasSameSums_13 : decode cX3_hasSameSums 13 = .ok (.if_icmp .ge 34, 3) := by decide +kernel
theorem dX3_hasSameSums_16 : decode cX3_hasSameSums 16 = .ok (.aload_n 0, 1) := by decide +kernel
theorem dX3_hasSameSums_17 : decode cX3_hasSameSums 17 = .ok (.getfield 20, 3) := by decide +kernel
theorem dX3_hasSameSums_20 : decode cX3_hasSameSums 20 = .ok (.iload_n 3, 1) := by decide +kernel
theorem dX3_hasSameSums_21 : decode cX3_hasSameSums 21 = .ok (.iload 4, 2) := by decide +kernel
theorem dX3_hasSameSums_23 : decode cX3_hasSameSums 23 = .ok (.invokevirtual 43, 3) := by decide +kernel
theorem dX3_hasSameSums_26 : decode cX3_hasSameSums 26 = .ok (.aload_n 1, 1) := by decide +kernel
theorem dX3_hasSameSums_27 : decode cX3_hasSameSums 27 = .ok (.getfield 20, 3) := by decide +kernel
theorem dX3_hasSameSums_30 : decode cX3_hasSameSums 30 = .ok (.iload_n 3, 1) := by decide +kernel
theorem dX3_hasSameSums_31 : decode cX3_hasSameSums 31 = .ok (.iload 4, 2) := by decide +kernel
theorem dX3_hasSameSums_33 : decode cX3_hasSameSums 33 = .ok (.invokevirtual 43, 3) := by decide +kernel
theorem dX3_hasSameSums_36 : decode cX3_hasSameSums 36 = .ok (.if_icmp .eq 5, 3) := by decide +kernel
theorem dX3_hasSameSums_39 : decode cX3_hasSameSums 39 = .ok (.iconst 0, 1) := by decide +kernel
theorem dX3_hasSameSums_40 : decode cX3_hasSameSums 40 = .ok (.ireturn, 1) := by decide +kernel
theorem dX3_hasSameSums_41 : decode cX3_hasSameSums 41 = .ok (.iinc 4 1, 3) := by decide +kernel
theorem dX3_hasSameSums_44 : decode cX3_hasSameSums 44 = .ok (.goto (-34), 3) := by decide +kernel
theorem dX3_hasSameSums_47 : decode cX3_hasSameSums 47 = .ok (.iinc 3 1, 3) := by decide +kernel
theorem dX3_hasSameSums_50 : decode cX3_hasSameSums 50 = .ok (.goto (-48), 3) := by decide +kernel
theorem dX3_hasSameSums_53 : decode cX3_hasSameSums 53 = .ok (.iconst 1, 1) := by decide +kernel
theorem dX3_hasSameSums_54 : decode cX3_hasSameSums 54 = .ok (.ireturn, 1) := by decide +kernel
theorem dX4_init_0 : decode cX4_init 0 = .ok (.aload_n 0, 1) := by decide +kernel
theorem dX4_init_1 : decode cX4_init 1 = .ok (.invokespecial 3, 3) := by decide +kernel
theorem dX4_init_4 : decode cX4_init 4 = .ok (.aload_n 0, 1) := by decide +kernel
theorem dX4_init_5 : decode cX4_init 5 = .ok (.aload_n 1, 1) := by decide +kernel
theorem dX4_init_6 : decode cX4_init 6 = .ok (.putfield 9, 3) := by decide +kernel
theorem dX4_init_9 : decode cX4_init 9 = .ok (.aload_n 0, 1) := by decide +kernel
theorem dX4_init_10 : decode cX4_init 10 = .ok (.aload_n 2, 1) := by decide +kernel
theorem dX4_init_11 : decode cX4_init 11 = .ok (.putfield 15, 3) := by decide +kernel
theorem dX4_init_14 : decode cX4_init 14 = .ok (.aload_n 0, 1) := by decide +kernel
theorem dX4_init_15 : decode cX4_init 15 = .ok (.new 19, 3) := by decide +kernel
theorem dX4_init_18 : decode cX4_init 18 = .ok (.dup, 1) := by decide +kernel
theorem dX4_init_19 : decode cX4_init 19 = .ok (.bipush 30, 2) := by decide +kernel
theorem dX4_init_21 : decode cX4_init 21 = .ok (.iconst 5, 1) := by decide +kernel
theorem dX4_init_22 : decode cX4_init 22 = .ok (.invokespecial 21, 3) := by decide +kernel
theorem dX4_init_25 : decode cX4_init 25 = .ok (.putfield 24, 3) := by decide +kernel
theorem dX4_init_28 : decode cX4_init 28 = .ok (.aload_n 0, 1) := by decide +kernel
theorem dX4_init_29 : decode cX4_init 29 = .ok (.iconst 0, 1) := by decide +kernel
theorem dX4_init_30 : decode cX4_init 30 = .ok (.putfield 28, 3) := by decide +kernel
theorem dX4_init_33 : decode cX4_init 33 = .ok (.return_, 1) := by decide +kernel
theorem dX5_init_0 : decode cX5_init 0 = .ok (.aload_n 0, 1) := by decide +kernel
theorem dX5_init_1 : decode cX5_init 1 = .ok (.invokespecial 3, 3) := by decide +kernel
theorem dX5_init_4 : decode cX5_init 4 = .ok (.aload_n 0, 1) := by decide +kernel
theorem dX5_init_5 : decode cX5_init 5 = .ok (.aload_n 1, 1) := by decide +kernel
theorem dX5_init_6 : decode cX5_init 6 = .ok (.putfield 9, 3) := by decide +kernel
theorem dX5_init_9 : decode cX5_init 9 = .ok (.aload_n 0, 1) := by decide +kernel
theorem dX5_init_10 : decode cX5_init 10 = .ok (.aload_n 2, 1) := by decide +kernel
theorem dX5_init_11 : decode cX5_init 11 = .ok (.putfield 15, 3) := by decide +kernel
theorem dX5_init_14 : decode cX5_init 14 = .ok (.return_, 1) := by decide +kernel
theorem dX5_isRead_0 : decode cX5_isRead 0 = .ok (.aload_n 0, 1) := by decide +kernel
theorem dX5_isRead_1 : decode cX5_isRead 1 = .ok (.getfield 15, 3) := by decide +kernel
theorem dX5_isRead_4 : decode cX5_isRead 4 = .ok (.invokevirtual 19, 3) := by decide +kernel
theorem dX5_isRead_7 : decode cX5_isRead 7 = .ok (.aload_n 0, 1) := by decide +kernel
theorem dX5_isRead_8 : decode cX5_isRead 8 = .ok (.getfield 9, 3) := by decide +kernel
theorem dX5_isRead_11 : decode cX5_isRead 11 = .ok (.invokevirtual 24, 3) := by decide +kernel
theorem dX5_isRead_14 : decode cX5_isRead 14 = .ok (.iconst 0, 1) := by decide +kernel
theorem dX5_isRead_15 : decode cX5_isRead 15 = .ok (.istore_n 1, 1) := by decide +kernel
theorem dX5_isRead_16 : decode cX5_isRead 16 = .ok (.iload_n 1, 1) := by decide +kernel
theorem dX5_isRead_17 : decode cX5_isRead 17 = .ok (.sipush 800, 3) := by decide +kernel
theorem dX5_isRead_20 : decode cX5_isRead 20 = .ok (.if_icmp .ge 28, 3) := by decide +kernel
theorem dX5_isRead_23 : decode cX5_isRead 23 = .ok (.aload_n 0, 1) := by decide +kernel
theorem dX5_isRead_24 : decode cX5_isRead 24 = .ok (.getfield 9, 3) := by decide +kernel
theorem dX5_isRead_27 : decode cX5_isRead 27 = .ok (.getfield 29, 3) := by decide +kernel
theorem dX5_isRead_30 : decode cX5_isRead 30 = .ok (.ifCond .eq 18, 3) := by decide +kernel
theorem dX5_isRead_33 : decode cX5_isRead 33 = .ok (.aload_n 0, 1) := by decide +kernel
theorem dX5_isRead_34 : decode cX5_isRead 34 = .ok (.invokevirtual 33, 3) := by decide +kernel
theorem dX5_isRead_37 : decode cX5_isRead 37 = .ok (.ifCond .ne 5, 3) := by decide +kernel
theorem dX5_isRead_40 : decode cX5_isRead 40 = .ok (.iconst 0, 1) := by decide +kernel
theorem dX5_isRead_41 : decode cX5_isRead 41 = .ok (.ireturn, 1) := by decide +kernel
theorem dX5_isRead_42 : decode cX5_isRead 42 = .ok (.iinc 1 1, 3) := by decide +kernel
theorem dX5_isRead_45 : decode cX5_isRead 45 = .ok (.goto (-29), 3) := by decide +kernel
theorem dX5_isRead_48 : decode cX5_isRead 48 = .ok (.aload_n 0, 1) := by decide +kernel
theorem dX5_isRead_49 : decode cX5_isRead 49 = .ok (.getfield 15, 3) := by decide +kernel
theorem dX5_isRead_52 : decode cX5_isRead 52 = .ok (.getfield 37, 3) := by decide +kernel
theorem dX5_isRead_55 : decode cX5_isRead 55 = .ok (.iconst 2, 1) := by decide +kernel
theorem dX5_isRead_56 : decode cX5_isRead 56 = .ok (.if_icmp .ge 13, 3) := by decide +kernel
theorem dX5_isRead_59 : decode cX5_isRead 59 = .ok (.aload_n 0, 1) := by decide +kernel
theorem dX5_isRead_60 : decode cX5_isRead 60 = .ok (.getfield 9, 3) := by decide +kernel
theorem dX5_isRead_63 : decode cX5_isRead 63 = .ok (.bipush 6, 2) := by decide +kernel
theorem dX5_isRead_65 : decode cX5_isRead 65 = .ok (.invokevirtual 40, 3) := by decide +kernel
theorem dX5_isRead_68 : decode cX5_isRead 68 = .ok (.ireturn, 1) := by decide +kernel
theorem dX5_isRead_69 : decode cX5_isRead 69 = .ok (.aload_n 0, 1) := by decide +kernel
theorem dX5_isRead_70 : decode cX5_isRead 70 = .ok (.getfield 15, 3) := by decide +kernel
theorem dX5_isRead_73 : decode cX5_isRead 73 = .ok (.getfield 44, 3) := by decide +kernel
theorem dX5_isRead_76 : decode cX5_isRead 76 = .ok (.aload_n 0, 1) := by decide +kernel
theorem dX5_isRead_77 : decode cX5_isRead 77 = .ok (.getfield 15, 3) := by decide +kernel
theorem dX5_isRead_80 : decode cX5_isRead 80 = .ok (.invokevirtual 48, 3) := by decide +kernel
theorem dX5_isRead_83 : decode cX5_isRead 83 = .ok (.iconst 1, 1) := by decide +kernel
theorem dX5_isRead_84 : decode cX5_isRead 84 = .ok (.ireturn, 1) := by decide +kernel
theorem dX5_isStatementRead_0 : decode cX5_isStatementRead 0 = .ok (.aload_n 0, 1) := by decide +kernel
theorem dX5_isStatementRead_1 : decode cX5_isStatementRead 1 = .ok (.getfield 9, 3) := by decide +kernel
theorem dX5_isStatementRead_4 : decode cX5_isStatementRead 4 = .ok (.ldc 54, 2) := by decide +kernel
theorem dX5_isStatementRead_6 : decode cX5_isStatementRead 6 = .ok (.invokevirtual 56, 3) := by decide +kernel
theorem dX5_isStatementRead_9 : decode cX5_isStatementRead 9 = .ok (.ifCond .eq 8, 3) := by decide +kernel
theorem dX5_isStatementRead_12 : decode cX5_isStatementRead 12 = .ok (.aload_n 0, 1) := by decide +kernel
theorem dX5_isStatementRead_13 : decode cX5_isStatementRead 13 = .ok (.invokevirtual 60, 3) := by decide +kernel
theorem dX5_isStatementRead_16 : decode cX5_isStatementRead 16 = .ok (.ireturn, 1) := by decide +kernel
theorem dX5_isStatementRead_17 : decode cX5_isStatementRead 17 = .ok (.aload_n 0, 1) := by decide +kernel
theorem dX5_isStatementRead_18 : decode cX5_isStatementRead 18 = .ok (.getfield 9, 3) := by decide +kernel
theorem dX5_isStatementRead_21 : decode cX5_isStatementRead 21 = .ok (.ldc 63, 2) := by decide +kernel
theorem dX5_isStatementRead_23 : decode cX5_isStatementRead 23 = .ok (.invokevirtual 56, 3) := by decide +kernel
theorem dX5_isStatementRead_26 : decode cX5_isStatementRead 26 = .ok (.ifCond .eq 8, 3) := by decide +kernel
theorem dX5_isStatementRead_29 : decode cX5_isStatementRead 29 = .ok (.aload_n 0, 1) := by decide +kernel
theorem dX5_isStatementRead_30 : decode cX5_isStatementRead 30 = .ok (.invokevirtual 65, 3) := by decide +kernel
theorem dX5_isStatementRead_33 : decode cX5_isStatementRead 33 = .ok (.ireturn, 1) := by decide +kernel
theorem dX5_isStatementRead_34 : decode cX5_isStatementRead 34 = .ok (.aload_n 0, 1) := by decide +kernel
theorem dX5_isStatementRead_35 : decode cX5_isStatementRead 35 = .ok (.getfield 9, 3) := by decide +kernel
theorem dX5_isStatementRead_38 : decode cX5_isStatementRead 38 = .ok (.invokevirtual 68, 3) := by decide +kernel
theorem dX5_isStatementRead_41 : decode cX5_isStatementRead 41 = .ok (.istore_n 1, 1) := by decide +kernel
theorem dX5_isStatementRead_42 : decode cX5_isStatementRead 42 = .ok (.iload_n 1, 1) := by decide +kernel
theorem dX5_isStatementRead_43 : decode cX5_isStatementRead 43 = .ok (.iconst (-1), 1) := by decide +kernel
theorem dX5_isStatementRead_44 : decode cX5_isStatementRead 44 = .ok (.if_icmp .ne 14, 3) := by decide +kernel
theorem dX5_isStatementRead_47 : decode cX5_isStatementRead 47 = .ok (.aload_n 0, 1) := by decide +kernel
theorem dX5_isStatementRead_48 : decode cX5_isStatementRead 48 = .ok (.getfield 9, 3) := by decide +kernel
theorem dX5_isStatementRead_51 : decode cX5_isStatementRead 51 = .ok (.iconst 1, 1) := by decide +kernel
theorem dX5_isStatementRead_52 : decode cX5_isStatementRead 52 = .ok (.invokevirtual 40, 3) := by decide +kernel
theorem dX5_isStatementRead_55 : decode cX5_isStatementRead 55 = .ok (.goto 8, 3) := by decide +kernel
theorem dX5_isStatementRead_58 : decode cX5_isStatementRead 58 = .ok (.aload_n 0, 1) := by decide +kernel
theorem dX5_isStatementRead_59 : decode cX5_isStatementRead 59 = .ok (.iload_n 1, 1) := by decide +kernel
theorem dX5_isStatementRead_60 : decode cX5_isStatementRead 60 = .ok (.invokevirtual 72, 3) := by decide +kernel
theorem dX5_isStatementRead_63 : decode cX5_isStatementRead 63 = .ok (.ireturn, 1) := by decide +kernel
theorem dX5_isRoofRead_0 : decode cX5_isRoofRead 0 = .ok (.aload_n 0, 1) := by decide +kernel
theorem dX5_isRoofRead_1 : decode cX5_isRoofRead 1 = .ok (.getfield 15, 3) := by decide +kernel
theorem dX5_isRoofRead_4 : decode cX5_isRoofRead 4 = .ok (.getfield 37, 3) := by decide +kernel
theorem dX5_isRoofRead_7 : decode cX5_isRoofRead 7 = .ok (.bipush 10, 2) := by decide +kernel
theorem dX5_isRoofRead_9 : decode cX5_isRoofRead 9 = .ok (.if_icmp .lt 12, 3) := by decide +kernel
theorem dX5_isRoofRead_12 : decode cX5_isRoofRead 12 = .ok (.aload_n 0, 1) := by decide +kernel
theorem dX5_isRoofRead_13 : decode cX5_isRoofRead 13 = .ok (.getfield 9, 3) := by decide +kernel
theorem dX5_isRoofRead_16 : decode cX5_isRoofRead 16 = .ok (.iconst 5, 1) := by decide +kernel
theorem dX5_isRoofRead_17 : decode cX5_isRoofRead 17 = .ok (.invokevirtual 40, 3) := by decide +kernel
theorem dX5_isRoofRead_20 : decode cX5_isRoofRead 20 = .ok (.ireturn, 1) := by decide +kernel
theorem dX5_isRoofRead_21 : decode cX5_isRoofRead 21 = .ok (.aload_n 0, 1) := by decide +kernel
theorem dX5_isRoofRead_22 : decode cX5_isRoofRead 22 = .ok (.getfield 9, 3) := by decide +kernel
theorem dX5_isRoofRead_25 : decode cX5_isRoofRead 25 = .ok (.invokevirtual 75, 3) := by decide +kernel
theorem dX5_isRoofRead_28 : decode cX5_isRoofRead 28 = .ok (.aload_n 0, 1) := by decide +kernel
theorem dX5_isRoofRead_29 : decode cX5_isRoofRead 29 = .ok (.getfield 9, 3) := by decide +kernel
theorem dX5_isRoofRead_32 : decode cX5_isRoofRead 32 = .ok (.invokevirtual 78, 3) := by decide +kernel
theorem dX5_isRoofRead_35 : decode cX5_isRoofRead 35 = .ok (.istore_n 1, 1) := by decide +kernel
theorem dX5_isRoofRead_36 : decode cX5_isRoofRead 36 = .ok (.iload_n 1, 1) := by decide +kernel
theorem dX5_isRoofRead_37 : decode cX5_isRoofRead 37 = .ok (.iconst (-1), 1) := by decide +kernel
theorem dX5_isRoofRead_38 : decode cX5_isRoofRead 38 = .ok (.if_icmp .ne 5, 3) := by decide +kernel
theorem dX5_isRoofRead_41 : decode cX5_isRoofRead 41 = .ok (.iconst 0, 1) := by decide +kernel
theorem dX5_isRoofRead_42 : decode cX5_isRoofRead 42 = .ok (.ireturn, 1) := by decide +kernel
theorem dX5_isRoofRead_43 : decode cX5_isRoofRead 43 = .ok (.aload_n 0, 1) := by decide +kernel
theorem dX5_isRoofRead_44 : decode cX5_isRoofRead 44 = .ok (.getfield 15, 3) := by decide +kernel
theorem dX5_isRoofRead_47 : decode cX5_isRoofRead 47 = .ok (.iload_n 1, 1) := by decide +kernel
theorem dX5_isRoofRead_48 : decode cX5_isRoofRead 48 = .ok (.invokevirtual 81, 3) := by decide +kernel
theorem dX5_isRoofRead_51 : decode cX5_isRoofRead 51 = .ok (.iconst (-1), 1) := by decide +kernel
theorem dX5_isRoofRead_52 : decode cX5_isRoofRead 52 = .ok (.if_icmp .eq 12, 3) := by decide +kernel
theorem dX5_isRoofRead_55 : decode cX5_isRoofRead 55 = .ok (.aload_n 0, 1) := by decide +kernel
theorem dX5_isRoofRead_56 : decode cX5_isRoofRead 56 = .ok (.getfield 9, 3) := by decide +kernel
theorem dX5_isRoofRead_59 : decode cX5_isRoofRead 59 = .ok (.iconst 3, 1) := by decide +kernel
theorem dX5_isRoofRead_60 : decode cX5_isRoofRead 60 = .ok (.invokevirtual 40, 3) := by decide +kernel
theorem dX5_isRoofRead_63 : decode cX5_isRoofRead 63 = .ok (.ireturn, 1) := by decide +kernel
theorem dX5_isRoofRead_64 : decode cX5_isRoofRead 64 = .ok (.aload_n 0, 1) := by decide +kernel
theorem dX5_isRoofRead_65 : decode cX5_isRoofRead 65 = .ok (.getfield 9, 3) := by decide +kernel
theorem dX5_isRoofRead_68 : decode cX5_isRoofRead 68 = .ok (.invokevirtual 75, 3) := by decide +kernel
theorem dX5_isRoofRead_71 : decode cX5_isRoofRead 71 = .ok (.aload_n 0, 1) := by decide +kernel
theorem dX5_isRoofRead_72 : decode cX5_isRoofRead 72 = .ok (.getfield 9, 3) := by decide +kernel
theorem dX5_isRoofRead_75 : decode cX5_isRoofRead 75 = .ok (.iconst 1, 1) := by decide +kernel
theorem dX5_isRoofRead_76 : decode cX5_isRoofRead 76 = .ok (.bipush 8, 2) := by decide +kernel
theorem dX5_isRoofRead_78 : decode cX5_isRoofRead 78 = .ok (.invokevirtual 85, 3) := by decide +kernel
theorem dX5_isRoofRead_81 : decode cX5_isRoofRead 81 = .ok (.istore_n 2, 1) := by decide +kernel
theorem dX5_isRoofRead_82 : decode cX5_isRoofRead 82 = .ok (.iload_n 2, 1) := by decide +kernel
theorem dX5_isRoofRead_83 : decode cX5_isRoofRead 83 = .ok (.iconst (-1), 1) := by decide +kernel
theorem dX5_isRoofRead_84 : decode cX5_isRoofRead 84 = .ok (.if_icmp .ne 7, 3) := by decide +kernel
theorem dX5_isRoofRead_87 : decode cX5_isRoofRead 87 = .ok (.iconst (-1), 1) := by decide +kernel
theorem dX5_isRoofRead_88 : decode cX5_isRoofRead 88 = .ok (.goto 13, 3) := by decide +kernel
theorem dX5_isRoofRead_91 : decode cX5_isRoofRead 91 = .ok (.aload_n 0, 1) := by decide +kernel
theorem dX5_isRoofRead_92 : decode cX5_isRoofRead 92 = .ok (.getfield 9, 3) := by decide +kernel
theorem dX5_isRoofRead_95 : decode cX5_isRoofRead 95 = .ok (.iconst 0, 1) := by decide +kernel
theorem dX5_isRoofRead_96 : decode cX5_isRoofRead 96 = .ok (.bipush 9, 2) := by decide +kernel
theorem dX5_isRoofRead_98 : decode cX5_isRoofRead 98 = .ok (.invokevirtual 85, 3) := by decide +kernel
theorem dX5_isRoofRead_101 : decode cX5_isRoofRead 101 = .ok (.istore_n 3, 1) := by decide +kernel
theorem dX5_isRoofRead_102 : decode cX5_isRoofRead 102 = .ok (.iload_n 3, 1) := by decide +kernel
theorem dX5_isRoofRead_103 : decode cX5_isRoofRead 103 = .ok (.iconst (-1), 1) := by decide +kernel
theorem dX5_isRoofRead_104 : decode cX5_isRoofRead 104 = .ok (.if_icmp .ne 7, 3) := by decide +kernel
theorem dX5_isRoofRead_107 : decode cX5_isRoofRead 107 = .ok (.iconst (-1), 1) := by decide +kernel
theorem dX5_isRoofRead_108 : decode cX5_isRoofRead 108 = .ok (.goto 13, 3) := by decide +kernel
theorem dX5_isRoofRead_111 : decode cX5_isRoofRead 111 = .ok (.aload_n 0, 1) := by decide +kernel
theorem dX5_isRoofRead_112 : decode cX5_isRoofRead 112 = .ok (.getfield 9, 3) := by decide +kernel
theorem dX5_isRoofRead_115 : decode cX5_isRoofRead 115 = .ok (.iconst 0, 1) := by decide +kernel
theorem dX5_isRoofRead_116 : decode cX5_isRoofRead 116 = .ok (.bipush 9, 2) := by decide +kernel
theorem dX5_isRoofRead_118 : decode cX5_isRoofRead 118 = .ok (.invokevirtual 85, 3) := by decide +kernel
theorem dX5_isRoofRead_121 : decode cX5_isRoofRead 121 = .ok (.istore 4, 2) := by decide +kernel
theorem dX5_isRoofRead_123 : decode cX5_isRoofRead 123 = .ok (.iload 4, 2) := by decide +kernel
theorem dX5_isRoofRead_125 : decode cX5_isRoofRead 125 = .ok (.iconst (-1), 1) := by decide +kernel
theorem dX5_isRoofRead_126 : decode cX5_isRoofRead 126 = .ok (.if_icmp .ne 7, 3) := by decide +kernel
theorem dX5_isRoofRead_129 : decode cX5_isRoofRead 129 = .ok (.iconst (-1), 1) := by decide +kernel
theorem dX5_isRoofRead_130 : decode cX5_isRoofRead 130 = .ok (.goto 14, 3) := by decide +kernel
theorem dX5_isRoofRead_133 : decode cX5_isRoofRead 133 = .ok (.aload_n 0, 1) := by decide +kernel
theorem dX5_isRoofRead_134 : decode cX5_isRoofRead 134 = .ok (.getfield 9, 3) := by decide +kernel
theorem dX5_isRoofRead_137 : decode cX5_isRoofRead 137 = .ok (.iconst 0, 1) := by decide +kernel
theorem dX5_isRoofRead_138 : decode cX5_isRoofRead 138 = .ok (.sipush 999, 3) := by decide +kernel
theorem dX5_isRoofRead_141 : decode cX5_isRoofRead 141 = .ok (.invokevirtual 85, 3) := by decide +kernel
theorem dX5_isRoofRead_144 : decode cX5_isRoofRead 144 = .ok (.istore 5, 2) := by decide +kernel
theorem dX5_isRoofRead_146 : decode cX5_isRoofRead 146 = .ok (.iload 5, 2) := by decide +kernel
theorem dX5_isRoofRead_148 : decode cX5_isRoofRead 148 = .ok (.iconst (-1), 1) := by decide +kernel
theorem dX5_isRoofRead_149 : decode cX5_isRoofRead 149 = .ok (.if_icmp .eq 13, 3) := by decide +kernel
theorem dX5_isRoofRead_152 : decode cX5_isRoofRead 152 = .ok (.aload_n 0, 1) := by decide +kernel
theorem dX5_isRoofRead_153 : decode cX5_isRoofRead 153 = .ok (.getfield 9, 3) := by decide +kernel
theorem dX5_isRoofRead_156 : decode cX5_isRoofRead 156 = .ok (.invokevirtual 89, 3) := by decide +kernel
theorem dX5_isRoofRead_159 : decode cX5_isRoofRead 159 = .ok (.ifCond .ne 5, 3) := by decide +kernel
theorem dX5_isRoofRead_162 : decode cX5_isRoofRead 162 = .ok (.iconst 0, 1) := by decide +kernel
theorem dX5_isRoofRead_163 : decode cX5_isRoofRead 163 = .ok (.ireturn, 1) := by decide +kernel
theorem dX5_isRoofRead_164 : decode cX5_isRoofRead 164 = .ok (.aload_n 0, 1) := by decide +kernel
theorem dX5_isRoofRead_165 : decode cX5_isRoofRead 165 = .ok (.getfield 15, 3) := by decide +kernel
theorem dX5_isRoofRead_168 : decode cX5_isRoofRead 168 = .ok (.iload_n 1, 1) := by decide +kernel
theorem dX5_isRoofRead_169 : decode cX5_isRoofRead 169 = .ok (.iload_n 2, 1) := by decide +kernel
theorem dX5_isRoofRead_170 : decode cX5_isRoofRead 170 = .ok (.iload_n 3, 1) := by decide +kernel
theorem dX5_isRoofRead_171 : decode cX5_isRoofRead 171 = .ok (.iload 4, 2) := by decide +kernel
theorem dX5_isRoofRead_173 : decode cX5_isRoofRead 173 = .ok (.iload 5, 2) := by decide +kernel
theorem dX5_isRoofRead_175 : decode cX5_isRoofRead 175 = .ok (.invokevirtual 92, 3) := by decide +kernel
theorem dX5_isRoofRead_178 : decode cX5_isRoofRead 178 = .ok (.iconst 1, 1) := by decide +kernel
theorem dX5_isRoofRead_179 : decode cX5_isRoofRead 179 = .ok (.ireturn, 1) := by decide +kernel
theorem dX5_isWayRead_0 : decode cX5_isWayRead 0 = .ok (.aload_n 0, 1) := by decide +kernel
theorem dX5_isWayRead_1 : decode cX5_isWayRead 1 = .ok (.getfield 15, 3) := by decide +kernel
theorem dX5_isWayRead_4 : decode cX5_isWayRead 4 = .ok (.getfield 96, 3) := by decide +kernel
theorem dX5_isWayRead_7 : decode cX5_isWayRead 7 = .ok (.bipush 20, 2) := by decide +kernel
theorem dX5_isWayRead_9 : decode cX5_isWayRead 9 = .ok (.if_icmp .lt 12, 3) := by decide +kernel
theorem dX5_isWayRead_12 : decode cX5_isWayRead 12 = .ok (.aload_n 0, 1) := by decide +kernel
theorem dX5_isWayRead_13 : decode cX5_isWayRead 13 = .ok (.getfield 9, 3) := by decide +kernel
theorem dX5_isWayRead_16 : decode cX5_isWayRead 16 = .ok (.iconst 5, 1) := by decide +kernel
theorem dX5_isWayRead_17 : decode cX5_isWayRead 17 = .ok (.invokevirtual 40, 3) := by decide +kernel
theorem dX5_isWayRead_20 : decode cX5_isWayRead 20 = .ok (.ireturn, 1) := by decide +kernel
theorem dX5_isWayRead_21 : decode cX5_isWayRead 21 = .ok (.aload_n 0, 1) := by decide +kernel
theorem dX5_isWayRead_22 : decode cX5_isWayRead 22 = .ok (.getfield 9, 3) := by decide +kernel
theorem dX5_isWayRead_25 : decode cX5_isWayRead 25 = .ok (.invokevirtual 75, 3) := by decide +kernel
theorem dX5_isWayRead_28 : decode cX5_isWayRead 28 = .ok (.aload_n 0, 1) := by decide +kernel
theorem dX5_isWayRead_29 : decode cX5_isWayRead 29 = .ok (.getfield 9, 3) := by decide +kernel
theorem dX5_isWayRead_32 : decode cX5_isWayRead 32 = .ok (.aload_n 0, 1) := by decide +kernel
theorem dX5_isWayRead_33 : decode cX5_isWayRead 33 = .ok (.getfield 15, 3) := by decide +kernel
theorem dX5_isWayRead_36 : decode cX5_isWayRead 36 = .ok (.iconst (-1), 1) := by decide +kernel
theorem dX5_isWayRead_37 : decode cX5_isWayRead 37 = .ok (.invokevirtual 99, 3) := by decide +kernel
theorem dX5_isWayRead_40 : decode cX5_isWayRead 40 = .ok (.istore_n 1, 1) := by decide +kernel
theorem dX5_isWayRead_41 : decode cX5_isWayRead 41 = .ok (.iload_n 1, 1) := by decide +kernel
theorem dX5_isWayRead_42 : decode cX5_isWayRead 42 = .ok (.iconst (-1), 1) := by decide +kernel
theorem dX5_isWayRead_43 : decode cX5_isWayRead 43 = .ok (.if_icmp .ne 5, 3) := by decide +kernel
theorem dX5_isWayRead_46 : decode cX5_isWayRead 46 = .ok (.iconst 0, 1) := by decide +kernel
theorem dX5_isWayRead_47 : decode cX5_isWayRead 47 = .ok (.ireturn, 1) := by decide +kernel
theorem dX5_isWayRead_48 : decode cX5_isWayRead 48 = .ok (.aload_n 0, 1) := by decide +kernel
theorem dX5_isWayRead_49 : decode cX5_isWayRead 49 = .ok (.getfield 9, 3) := by decide +kernel
theorem dX5_isWayRead_52 : decode cX5_isWayRead 52 = .ok (.invokevirtual 75, 3) := by decide +kernel
theorem dX5_isWayRead_55 : decode cX5_isWayRead 55 = .ok (.aload_n 0, 1) := by decide +kernel
theorem dX5_isWayRead_56 : decode cX5_isWayRead 56 = .ok (.getfield 9, 3) := by decide +kernel
theorem dX5_isWayRead_59 : decode cX5_isWayRead 59 = .ok (.aload_n 0, 1) := by decide +kernel
theorem dX5_isWayRead_60 : decode cX5_isWayRead 60 = .ok (.getfield 15, 3) := by decide +kernel
theorem dX5_isWayRead_63 : decode cX5_isWayRead 63 = .ok (.iload_n 1, 1) := by decide +kernel
theorem dX5_isWayRead_64 : decode cX5_isWayRead 64 = .ok (.invokevirtual 99, 3) := by decide +kernel
theorem dX5_isWayRead_67 : decode cX5_isWayRead 67 = .ok (.istore_n 2, 1) := by decide +kernel
theorem dX5_isWayRead_68 : decode cX5_isWayRead 68 = .ok (.iload_n 2, 1) := by decide +kernel
theorem dX5_isWayRead_69 : decode cX5_isWayRead 69 = .ok (.iconst (-1), 1) := by decide +kernel
theorem dX5_isWayRead_70 : decode cX5_isWayRead 70 = .ok (.if_icmp .ne 5, 3) := by decide +kernel
theorem dX5_isWayRead_73 : decode cX5_isWayRead 73 = .ok (.iconst 0, 1) := by decide +kernel
theorem dX5_isWayRead_74 : decode cX5_isWayRead 74 = .ok (.ireturn, 1) := by decide +kernel
theorem dX5_isWayRead_75 : decode cX5_isWayRead 75 = .ok (.aload_n 0, 1) := by decide +kernel
theorem dX5_isWayRead_76 : decode cX5_isWayRead 76 = .ok (.getfield 15, 3) := by decide +kernel
theorem dX5_isWayRead_79 : decode cX5_isWayRead 79 = .ok (.iload_n 1, 1) := by decide +kernel
theorem dX5_isWayRead_80 : decode cX5_isWayRead 80 = .ok (.iload_n 2, 1) := by decide +kernel
theorem dX5_isWayRead_81 : decode cX5_isWayRead 81 = .ok (.invokevirtual 103, 3) := by decide +kernel
theorem dX5_isWayRead_84 : decode cX5_isWayRead 84 = .ok (.iconst (-1), 1) := by decide +kernel
theorem dX5_isWayRead_85 : decode cX5_isWayRead 85 = .ok (.if_icmp .eq 12, 3) := by decide +kernel
theorem dX5_isWayRead_88 : decode cX5_isWayRead 88 = .ok (.aload_n 0, 1) := by decide +kernel
theorem dX5_isWayRead_89 : decode cX5_isWayRead 89 = .ok (.getfield 9, 3) := by decide +kernel
theorem dX5_isWayRead_92 : decode cX5_isWayRead 92 = .ok (.iconst 4, 1) := by decide +kernel
theorem dX5_isWayRead_93 : decode cX5_isWayRead 93 = .ok (.invokevirtual 40, 3) := by decide +kernel
theorem dX5_isWayRead_96 : decode cX5_isWayRead 96 = .ok (.ireturn, 1) := by decide +kernel
theorem dX5_isWayRead_97 : decode cX5_isWayRead 97 = .ok (.aload_n 0, 1) := by decide +kernel
theorem dX5_isWayRead_98 : decode cX5_isWayRead 98 = .ok (.getfield 9, 3) := by decide +kernel
theorem dX5_isWayRead_101 : decode cX5_isWayRead 101 = .ok (.invokevirtual 75, 3) := by decide +kernel
theorem dX5_isWayRead_104 : decode cX5_isWayRead 104 = .ok (.aload_n 0, 1) := by decide +kernel
theorem dX5_isWayRead_105 : decode cX5_isWayRead 105 = .ok (.getfield 9, 3) := by decide +kernel
theorem dX5_isWayRead_108 : decode cX5_isWayRead 108 = .ok (.iconst 1, 1) := by decide +kernel
theorem dX5_isWayRead_109 : decode cX5_isWayRead 109 = .ok (.bipush 9, 2) := by decide +kernel
theorem dX5_isWayRead_111 : decode cX5_isWayRead 111 = .ok (.invokevirtual 85, 3) := by decide +kernel
theorem dX5_isWayRead_114 : decode cX5_isWayRead 114 = .ok (.istore_n 3, 1) := by decide +kernel
theorem dX5_isWayRead_115 : decode cX5_isWayRead 115 = .ok (.iload_n 3, 1) := by decide +kernel
theorem dX5_isWayRead_116 : decode cX5_isWayRead 116 = .ok (.iconst (-1), 1) := by decide +kernel
theorem dX5_isWayRead_117 : decode cX5_isWayRead 117 = .ok (.if_icmp .eq 13, 3) := by decide +kernel
theorem dX5_isWayRead_120 : decode cX5_isWayRead 120 = .ok (.aload_n 0, 1) := by decide +kernel
theorem dX5_isWayRead_121 : decode cX5_isWayRead 121 = .ok (.getfield 9, 3) := by decide +kernel
theorem dX5_isWayRead_124 : decode cX5_isWayRead 124 = .ok (.invokevirtual 89, 3) := by decide +kernel
theorem dX5_isWayRead_127 : decode cX5_isWayRead 127 = .ok (.ifCond .ne 5, 3) := by decide +kernel
theorem dX5_isWayRead_130 : decode cX5_isWayRead 130 = .ok (.iconst 0, 1) := by decide +kernel
theorem dX5_isWayRead_131 : decode cX5_isWayRead 131 = .ok (.ireturn, 1) := by decide +kernel
theorem dX5_isWayRead_132 : decode cX5_isWayRead 132 = .ok (.aload_n 0, 1) := by decide +kernel
theorem dX5_isWayRead_133 : decode cX5_isWayRead 133 = .ok (.getfield 15, 3) := by decide +kernel
theorem dX5_isWayRead_136 : decode cX5_isWayRead 136 = .ok (.iload_n 1, 1) := by decide +kernel
theorem dX5_isWayRead_137 : decode cX5_isWayRead 137 = .ok (.iload_n 2, 1) := by decide +kernel
theorem dX5_isWayRead_138 : decode cX5_isWayRead 138 = .ok (.iload_n 3, 1) := by decide +kernel
theorem dX5_isWayRead_139 : decode cX5_isWayRead 139 = .ok (.invokevirtual 106, 3) := by decide +kernel
theorem dX5_isWayRead_142 : decode cX5_isWayRead 142 = .ok (.iconst 1, 1) := by decide +kernel
theorem dX5_isWayRead_143 : decode cX5_isWayRead 143 = .ok (.ireturn, 1) := by decide +kernel
theorem dX5_isSettingRead_0 : decode cX5_isSettingRead 0 = .ok (.aload_n 0, 1) := by decide +kernel
theorem dX5_isSettingRead_1 : decode cX5_isSettingRead 1 = .ok (.getfield 9, 3) := by decide +kernel
theorem dX5_isSettingRead_4 : decode cX5_isSettingRead 4 = .ok (.invokevirtual 75, 3) := by decide +kernel
theorem dX5_isSettingRead_7 : decode cX5_isSettingRead 7 = .ok (.aload_n 0, 1) := by decide +kernel
theorem dX5_isSettingRead_8 : decode cX5_isSettingRead 8 = .ok (.getfield 9, 3) := by decide +kernel
theorem dX5_isSettingRead_11 : decode cX5_isSettingRead 11 = .ok (.iload_n 1, 1) := by decide +kernel
theorem dX5_isSettingRead_12 : decode cX5_isSettingRead 12 = .ok (.invokestatic 110, 3) := by decide +kernel
theorem dX5_isSettingRead_15 : decode cX5_isSettingRead 15 = .ok (.iload_n 1, 1) := by decide +kernel
theorem dX5_isSettingRead_16 : decode cX5_isSettingRead 16 = .ok (.invokestatic 113, 3) := by decide +kernel
theorem dX5_isSettingRead_19 : decode cX5_isSettingRead 19 = .ok (.invokevirtual 85, 3) := by decide +kernel
theorem dX5_isSettingRead_22 : decode cX5_isSettingRead 22 = .ok (.istore_n 2, 1) := by decide +kernel
theorem dX5_isSettingRead_23 : decode cX5_isSettingRead 23 = .ok (.iload_n 2, 1) := by decide +kernel
theorem dX5_isSettingRead_24 : decode cX5_isSettingRead 24 = .ok (.iconst (-1), 1) := by decide +kernel
theorem dX5_isSettingRead_25 : decode cX5_isSettingRead 25 = .ok (.if_icmp .eq 13, 3) := by decide +kernel
theorem dX5_isSettingRead_28 : decode cX5_isSettingRead 28 = .ok (.aload_n 0, 1) := by decide +kernel
theorem dX5_isSettingRead_29 : decode cX5_isSettingRead 29 = .ok (.getfield 9, 3) := by decide +kernel
theorem dX5_isSettingRead_32 : decode cX5_isSettingRead 32 = .ok (.invokevirtual 89, 3) := by decide +kernel
theorem dX5_isSettingRead_35 : decode cX5_isSettingRead 35 = .ok (.ifCond .ne 5, 3) := by decide +kernel
theorem dX5_isSettingRead_38 : decode cX5_isSettingRead 38 = .ok (.iconst 0, 1) := by decide +kernel
theorem dX5_isSettingRead_39 : decode cX5_isSettingRead 39 = .ok (.ireturn, 1) := by decide +kernel
theorem dX5_isSettingRead_40 : decode cX5_isSettingRead 40 = .ok (.aload_n 0, 1) := by decide +kernel
theorem dX5_isSettingRead_41 : decode cX5_isSettingRead 41 = .ok (.getfield 15, 3) := by decide +kernel
theorem dX5_isSettingRead_44 : decode cX5_isSettingRead 44 = .ok (.iload_n 1, 1) := by decide +kernel
theorem dX5_isSettingRead_45 : decode cX5_isSettingRead 45 = .ok (.iload_n 2, 1) := by decide +kernel
theorem dX5_isSettingRead_46 : decode cX5_isSettingRead 46 = .ok (.invokevirtual 116, 3) := by decide +kernel
theorem dX5_isSettingRead_49 : decode cX5_isSettingRead 49 = .ok (.iconst 1, 1) := by decide +kernel
theorem dX5_isSettingRead_50 : decode cX5_isSettingRead 50 = .ok (.ireturn, 1) := by decide +kernel
theorem dX6_areTunesRight_0 : decode cX6_areTunesRight 0 = .ok (.iconst 0, 1) := by decide +kernel
theorem dX6_areTunesRight_1 : decode cX6_areTunesRight 1 = .ok (.istore_n 1, 1) := by decide +kernel
theorem dX6_areTunesRight_2 : decode cX6_areTunesRight 2 = .ok (.iload_n 1, 1) := by decide +kernel
theorem dX6_areTunesRight_3 : decode cX6_areTunesRight 3 = .ok (.aload_n 0, 1) := by decide +kernel
theorem dX6_areTunesRight_4 : decode cX6_areTunesRight 4 = .ok (.getfield 88, 3) := by decide +kernel
theorem dX6_areTunesRight_7 : decode cX6_areTunesRight 7 = .ok (.if_icmp .ge 72, 3) := by decide +kernel
theorem dX6_areTunesRight_10 : decode cX6_areTunesRight 10 = .ok (.aload_n 0, 1) := by decide +kernel
theorem dX6_areTunesRight_11 : decode cX6_areTunesRight 11 = .ok (.getfield 9, 3) := by decide +kernel
theorem dX6_areTunesRight_14 : decode cX6_areTunesRight 14 = .ok (.iload_n 1, 1) := by decide +kernel
theorem dX6_areTunesRight_15 : decode cX6_areTunesRight 15 = .ok (.iconst 3, 1) := by decide +kernel
theorem dX6_areTunesRight_16 : decode cX6_areTunesRight 16 = .ok (.invokevirtual 15, 3) := by decide +kernel
theorem dX6_areTunesRight_19 : decode cX6_areTunesRight 19 = .ok (.istore_n 2, 1) := by decide +kernel
theorem dX6_areTunesRight_20 : decode cX6_areTunesRight 20 = .ok (.aload_n 0, 1) := by decide +kernel
theorem dX6_areTunesRight_21 : decode cX6_areTunesRight 21 = .ok (.getfield 9, 3) := by decide +kernel
theorem dX6_areTunesRight_24 : decode cX6_areTunesRight 24 = .ok (.iload_n 1, 1) := by decide +kernel
theorem dX6_areTunesRight_25 : decode cX6_areTunesRight 25 = .ok (.iconst 4, 1) := by decide +kernel
theorem dX6_areTunesRight_26 : decode cX6_areTunesRight 26 = .ok (.invokevirtual 15, 3) := by decide +kernel
theorem dX6_areTunesRight_29 : decode cX6_areTunesRight 29 = .ok (.istore_n 3, 1) := by decide +kernel
theorem dX6_areTunesRight_30 : decode cX6_areTunesRight 30 = .ok (.iload_n 2, 1) := by decide +kernel
theorem dX6_areTunesRight_31 : decode cX6_areTunesRight 31 = .ok (.ifCond .lt 20, 3) := by decide +kernel
theorem dX6_areTunesRight_34 : decode cX6_areTunesRight 34 = .ok (.iload_n 2, 1) := by decide +kernel
theorem dX6_areTunesRight_35 : decode cX6_areTunesRight 35 = .ok (.iconst 3, 1) := by decide +kernel
theorem dX6_areTunesRight_36 : decode cX6_areTunesRight 36 = .ok (.if_icmp .gt 15, 3) := by decide +kernel
theorem dX6_areTunesRight_39 : decode cX6_areTunesRight 39 = .ok (.iload_n 3, 1) := by decide +kernel
theorem dX6_areTunesRight_40 : decode cX6_areTunesRight 40 = .ok (.ifCond .lt 11, 3) := by decide +kernel
theorem dX6_areTunesRight_43 : decode cX6_areTunesRight 43 = .ok (.iload_n 3, 1) := by decide +kernel
theorem dX6_areTunesRight_44 : decode cX6_areTunesRight 44 = .ok (.aload_n 0, 1) := by decide +kernel
theorem dX6_areTunesRight_45 : decode cX6_areTunesRight 45 = .ok (.getfield 73, 3) := by decide +kernel
theorem dX6_areTunesRight_48 : decode cX6_areTunesRight 48 = .ok (.if_icmp .lt 5, 3) := by decide +kernel
theorem dX6_areTunesRight_51 : decode cX6_areTunesRight 51 = .ok (.iconst 0, 1) := by decide +kernel
theorem dX6_areTunesRight_52 : decode cX6_areTunesRight 52 = .ok (.ireturn, 1) := by decide +kernel
theorem dX6_areTunesRight_53 : decode cX6_areTunesRight 53 = .ok (.iload_n 2, 1) := by decide +kernel
theorem dX6_areTunesRight_54 : decode cX6_areTunesRight 54 = .ok (.iconst 2, 1) := by decide +kernel
theorem dX6_areTunesRight_55 : decode cX6_areTunesRight 55 = .ok (.if_icmp .ne 18, 3) := by decide +kernel
theorem dX6_areTunesRight_58 : decode cX6_areTunesRight 58 = .ok (.iload_n 3, 1) := by decide +kernel
theorem dX6_areTunesRight_59 : decode cX6_areTunesRight 59 = .ok (.aload_n 0, 1) := by decide +kernel
theorem dX6_areTunesRight_60 : decode cX6_areTunesRight 60 = .ok (.getfield 9, 3) := by decide +kernel
theorem dX6_areTunesRight_63 : decode cX6_areTunesRight 63 = .ok (.iload_n 1, 1) := by decide +kernel
theorem dX6_areTunesRight_64 : decode cX6_areTunesRight 64 = .ok (.iconst 1, 1) := by decide +kernel
theorem dX6_areTunesRight_65 : decode cX6_areTunesRight 65 = .ok (.invokevirtual 15, 3) := by decide +kernel
theorem dX6_areTunesRight_68 : decode cX6_areTunesRight 68 = .ok (.if_icmp .eq 5, 3) := by decide +kernel
theorem dX6_areTunesRight_71 : decode cX6_areTunesRight 71 = .ok (.iconst 0, 1) := by decide +kernel
theorem dX6_areTunesRight_72 : decode cX6_areTunesRight 72 = .ok (.ireturn, 1) := by decide +kernel
theorem dX6_areTunesRight_73 : decode cX6_areTunesRight 73 = .ok (.iinc 1 1, 3) := by decide +kernel
theorem dX6_areTunesRight_76 : decode cX6_areTunesRight 76 = .ok (.goto (-74), 3) := by decide +kernel
theorem dX6_areTunesRight_79 : decode cX6_areTunesRight 79 = .ok (.iconst 1, 1) := by decide +kernel
theorem dX6_areTunesRight_80 : decode cX6_areTunesRight 80 = .ok (.ireturn, 1) := by decide +kernel
theorem dX6_areAccountsRight_0 : decode cX6_areAccountsRight 0 = .ok (.iconst 0, 1) := by decide +kernel
theorem dX6_areAccountsRight_1 : decode cX6_areAccountsRight 1 = .ok (.istore_n 1, 1) := by decide +kernel
theorem dX6_areAccountsRight_2 : decode cX6_areAccountsRight 2 = .ok (.iconst 0, 1) := by decide +kernel
theorem dX6_areAccountsRight_3 : decode cX6_areAccountsRight 3 = .ok (.istore_n 2, 1) := by decide +kernel
theorem dX6_areAccountsRight_4 : decode cX6_areAccountsRight 4 = .ok (.iload_n 2, 1) := by decide +kernel
theorem dX6_areAccountsRight_5 : decode cX6_areAccountsRight 5 = .ok (.aload_n 0, 1) := by decide +kernel
theorem dX6_areAccountsRight_6 : decode cX6_areAccountsRight 6 = .ok (.getfield 73, 3) := by decide +kernel
theorem dX6_areAccountsRight_9 : decode cX6_areAccountsRight 9 = .ok (.if_icmp .ge 22, 3) := by decide +kernel
theorem dX6_areAccountsRight_12 : decode cX6_areAccountsRight 12 = .ok (.iload_n 1, 1) := by decide +kernel
theorem dX6_areAccountsRight_13 : decode cX6_areAccountsRight 13 = .ok (.aload_n 0, 1) := by decide +kernel
theorem dX6_areAccountsRight_14 : decode cX6_areAccountsRight 14 = .ok (.getfield 36, 3) := by decide +kernel
theorem dX6_areAccountsRight_17 : decode cX6_areAccountsRight 17 = .ok (.iload_n 2, 1) := by decide +kernel
theorem dX6_areAccountsRight_18 : decode cX6_areAccountsRight 18 = .ok (.bipush 6, 2) := by decide +kernel
theorem dX6_areAccountsRight_20 : decode cX6_areAccountsRight 20 = .ok (.invokevirtual 15, 3) := by decide +kernel
theorem dX6_areAccountsRight_23 : decode cX6_areAccountsRight 23 = .ok (.iadd, 1) := by decide +kernel
theorem dX6_areAccountsRight_24 : decode cX6_areAccountsRight 24 = .ok (.istore_n 1, 1) := by decide +kernel
theorem dX6_areAccountsRight_25 : decode cX6_areAccountsRight 25 = .ok (.iinc 2 1, 3) := by decide +kernel
theorem dX6_areAccountsRight_28 : decode cX6_areAccountsRight 28 = .ok (.goto (-24), 3) := by decide +kernel
theorem dX6_areAccountsRight_31 : decode cX6_areAccountsRight 31 = .ok (.iconst 0, 1) := by decide +kernel
theorem dX6_areAccountsRight_32 : decode cX6_areAccountsRight 32 = .ok (.istore_n 2, 1) := by decide +kernel
theorem dX6_areAccountsRight_33 : decode cX6_areAccountsRight 33 = .ok (.iconst 0, 1) := by decide +kernel
theorem dX6_areAccountsRight_34 : decode cX6_areAccountsRight 34 = .ok (.istore_n 3, 1) := by decide +kernel
theorem dX6_areAccountsRight_35 : decode cX6_areAccountsRight 35 = .ok (.iload_n 3, 1) := by decide +kernel
theorem dX6_areAccountsRight_36 : decode cX6_areAccountsRight 36 = .ok (.aload_n 0, 1) := by decide +kernel
theorem dX6_areAccountsRight_37 : decode cX6_areAccountsRight 37 = .ok (.getfield 88, 3) := by decide +kernel
theorem dX6_areAccountsRight_40 : decode cX6_areAccountsRight 40 = .ok (.if_icmp .ge 22, 3) := by decide +kernel
theorem dX6_areAccountsRight_43 : decode cX6_areAccountsRight 43 = .ok (.iload_n 2, 1) := by decide +kernel
theorem dX6_areAccountsRight_44 : decode cX6_areAccountsRight 44 = .ok (.aload_n 0, 1) := by decide +kernel
theorem dX6_areAccountsRight_45 : decode cX6_areAccountsRight 45 = .ok (.getfield 9, 3) := by decide +kernel
theorem dX6_areAccountsRight_48 : decode cX6_areAccountsRight 48 = .ok (.iload_n 3, 1) := by decide +kernel
theorem dX6_areAccountsRight_49 : decode cX6_areAccountsRight 49 = .ok (.bipush 11, 2) := by decide +kernel
theorem dX6_areAccountsRight_51 : decode cX6_areAccountsRight 51 = .ok (.invokevirtual 15, 3) := by decide +kernel
theorem dX6_areAccountsRight_54 : decode cX6_areAccountsRight 54 = .ok (.iadd, 1) := by decide +kernel
theorem dX6_areAccountsRight_55 : decode cX6_areAccountsRight 55 = .ok (.istore_n 2, 1) := by decide +kernel
theorem dX6_areAccountsRight_56 : decode cX6_areAccountsRight 56 = .ok (.iinc 3 1, 3) := by decide +kernel
theorem dX6_areAccountsRight_59 : decode cX6_areAccountsRight 59 = .ok (.goto (-24), 3) := by decide +kernel
theorem dX6_areAccountsRight_62 : decode cX6_areAccountsRight 62 = .ok (.aload_n 0, 1) := by decide +kernel
theorem dX6_areAccountsRight_63 : decode cX6_areAccountsRight 63 = .ok (.getfield 91, 3) := by decide +kernel
theorem dX6_areAccountsRight_66 : decode cX6_areAccountsRight 66 = .ok (.iconst 0, 1) := by decide +kernel
theorem dX6_areAccountsRight_67 : decode cX6_areAccountsRight 67 = .ok (.iconst 1, 1) := by decide +kernel
theorem dX6_areAccountsRight_68 : decode cX6_areAccountsRight 68 = .ok (.invokevirtual 15, 3) := by decide +kernel
theorem dX6_areAccountsRight_71 : decode cX6_areAccountsRight 71 = .ok (.aload_n 0, 1) := by decide +kernel
theorem dX6_areAccountsRight_72 : decode cX6_areAccountsRight 72 = .ok (.getfield 88, 3) := by decide +kernel
theorem dX6_areAccountsRight_75 : decode cX6_areAccountsRight 75 = .ok (.if_icmp .ne 96, 3) := by decide +kernel
theorem dX6_areAccountsRight_78 : decode cX6_areAccountsRight 78 = .ok (.aload_n 0, 1) := by decide +kernel
theorem dX6_areAccountsRight_79 : decode cX6_areAccountsRight 79 = .ok (.getfield 91, 3) := by decide +kernel
theorem dX6_areAccountsRight_82 : decode cX6_areAccountsRight 82 = .ok (.iconst 0, 1) := by decide +kernel
theorem dX6_areAccountsRight_83 : decode cX6_areAccountsRight 83 = .ok (.iconst 5, 1) := by decide +kernel
theorem dX6_areAccountsRight_84 : decode cX6_areAccountsRight 84 = .ok (.invokevirtual 15, 3) := by decide +kernel
theorem dX6_areAccountsRight_87 : decode cX6_areAccountsRight 87 = .ok (.aload_n 0, 1) := by decide +kernel
theorem dX6_areAccountsRight_88 : decode cX6_areAccountsRight 88 = .ok (.iconst 2, 1) := by decide +kernel
theorem dX6_areAccountsRight_89 : decode cX6_areAccountsRight 89 = .ok (.invokevirtual 94, 3) := by decide +kernel
theorem dX6_areAccountsRight_92 : decode cX6_areAccountsRight 92 = .ok (.if_icmp .ne 79, 3) := by decide +kernel
theorem dX6_areAccountsRight_95 : decode cX6_areAccountsRight 95 = .ok (.aload_n 0, 1) := by decide +kernel
theorem dX6_areAccountsRight_96 : decode cX6_areAccountsRight 96 = .ok (.getfield 91, 3) := by decide +kernel
theorem dX6_areAccountsRight_99 : decode cX6_areAccountsRight 99 = .ok (.iconst 0, 1) := by decide +kernel
theorem dX6_areAccountsRight_100 : decode cX6_areAccountsRight 100 = .ok (.bipush 8, 2) := by decide +kernel
theorem dX6_areAccountsRight_102 : decode cX6_areAccountsRight 102 = .ok (.invokevirtual 15, 3) := by decide +kernel
theorem dX6_areAccountsRight_105 : decode cX6_areAccountsRight 105 = .ok (.aload_n 0, 1) := by decide +kernel
theorem dX6_areAccountsRight_106 : decode cX6_areAccountsRight 106 = .ok (.iconst 3, 1) := by decide +kernel
theorem dX6_areAccountsRight_107 : decode cX6_areAccountsRight 107 = .ok (.invokevirtual 94, 3) := by decide +kernel
theorem dX6_areAccountsRight_110 : decode cX6_areAccountsRight 110 = .ok (.if_icmp .ne 61, 3) := by decide +kernel
theorem dX6_areAccountsRight_113 : decode cX6_areAccountsRight 113 = .ok (.aload_n 0, 1) := by decide +kernel
theorem dX6_areAccountsRight_114 : decode cX6_areAccountsRight 114 = .ok (.invokevirtual 97, 3) := by decide +kernel
theorem dX6_areAccountsRight_117 : decode cX6_areAccountsRight 117 = .ok (.iload_n 1, 1) := by decide +kernel
theorem dX6_areAccountsRight_118 : decode cX6_areAccountsRight 118 = .ok (.aload_n 0, 1) := by decide +kernel
theorem dX6_areAccountsRight_119 : decode cX6_areAccountsRight 119 = .ok (.getfield 91, 3) := by decide +kernel
theorem dX6_areAccountsRight_122 : decode cX6_areAccountsRight 122 = .ok (.iconst 0, 1) := by decide +kernel
theorem dX6_areAccountsRight_123 : decode cX6_areAccountsRight 123 = .ok (.bipush 10, 2) := by decide +kernel
theorem dX6_areAccountsRight_125 : decode cX6_areAccountsRight 125 = .ok (.invokevirtual 15, 3) := by decide +kernel
theorem dX6_areAccountsRight_128 : decode cX6_areAccountsRight 128 = .ok (.iadd, 1) := by decide +kernel
theorem dX6_areAccountsRight_129 : decode cX6_areAccountsRight 129 = .ok (.if_icmp .ne 42, 3) := by decide +kernel
theorem dX6_areAccountsRight_132 : decode cX6_areAccountsRight 132 = .ok (.aload_n 0, 1) := by decide +kernel
theorem dX6_areAccountsRight_133 : decode cX6_areAccountsRight 133 = .ok (.getfield 91, 3) := by decide +kernel
theorem dX6_areAccountsRight_136 : decode cX6_areAccountsRight 136 = .ok (.iconst 0, 1) := by decide +kernel
theorem dX6_areAccountsRight_137 : decode cX6_areAccountsRight 137 = .ok (.iconst 3, 1) := by decide +kernel
theorem dX6_areAccountsRight_138 : decode cX6_areAccountsRight 138 = .ok (.invokevirtual 15, 3) := by decide +kernel
theorem dX6_areAccountsRight_141 : decode cX6_areAccountsRight 141 = .ok (.iload_n 2, 1) := by decide +kernel
theorem dX6_areAccountsRight_142 : decode cX6_areAccountsRight 142 = .ok (.if_icmp .ne 29, 3) := by decide +kernel
theorem dX6_areAccountsRight_145 : decode cX6_areAccountsRight 145 = .ok (.aload_n 0, 1) := by decide +kernel
theorem dX6_areAccountsRight_146 : decode cX6_areAccountsRight 146 = .ok (.getfield 91, 3) := by decide +kernel
theorem dX6_areAccountsRight_149 : decode cX6_areAccountsRight 149 = .ok (.iconst 0, 1) := by decide +kernel
theorem dX6_areAccountsRight_150 : decode cX6_areAccountsRight 150 = .ok (.bipush 6, 2) := by decide +kernel
theorem dX6_areAccountsRight_152 : decode cX6_areAccountsRight 152 = .ok (.invokevirtual 15, 3) := by decide +kernel
theorem dX6_areAccountsRight_155 : decode cX6_areAccountsRight 155 = .ok (.aload_n 0, 1) := by decide +kernel
theorem dX6_areAccountsRight_156 : decode cX6_areAccountsRight 156 = .ok (.getfield 91, 3) := by decide +kernel
theorem dX6_areAccountsRight_159 : decode cX6_areAccountsRight 159 = .ok (.iconst 0, 1) := by decide +kernel
theorem dX6_areAccountsRight_160 : decode cX6_areAccountsRight 160 = .ok (.iconst 5, 1) := by decide +kernel
theorem dX6_areAccountsRight_161 : decode cX6_areAccountsRight 161 = .ok (.invokevirtual 15, 3) := by decide +kernel
theorem dX6_areAccountsRight_164 : decode cX6_areAccountsRight 164 = .ok (.if_icmp .gt 7, 3) := by decide +kernel
theorem dX6_areAccountsRight_167 : decode cX6_areAccountsRight 167 = .ok (.iconst 1, 1) := by decide +kernel
theorem dX6_areAccountsRight_168 : decode cX6_areAccountsRight 168 = .ok (.goto 4, 3) := by decide +kernel
theorem dX6_areAccountsRight_171 : decode cX6_areAccountsRight 171 = .ok (.iconst 0, 1) := by decide +kernel
theorem dX6_areAccountsRight_172 : decode cX6_areAccountsRight 172 = .ok (.ireturn, 1) := by decide +kernel
theorem dX7_init_0 : decode cX7_init 0 = .ok (.aload_n 0, 1) := by decide +kernel
theorem dX7_init_1 : decode cX7_init 1 = .ok (.invokespecial 3, 3) := by decide +kernel
theorem dX7_init_4 : decode cX7_init 4 = .ok (.iload_n 1, 1) := by decide +kernel
theorem dX7_init_5 : decode cX7_init 5 = .ok (.ifCond .le 23, 3) := by decide +kernel
theorem dX7_init_8 : decode cX7_init 8 = .ok (.iload_n 1, 1) := by decide +kernel
theorem dX7_init_9 : decode cX7_init 9 = .ok (.bipush 64, 2) := by decide +kernel
theorem dX7_init_11 : decode cX7_init 11 = .ok (.if_icmp .gt 17, 3) := by decide +kernel
theorem dX7_init_14 : decode cX7_init 14 = .ok (.iload_n 2, 1) := by decide +kernel
theorem dX7_init_15 : decode cX7_init 15 = .ok (.ifCond .le 13, 3) := by decide +kernel
theorem dX7_init_18 : decode cX7_init 18 = .ok (.iload_n 2, 1) := by decide +kernel
theorem dX7_init_19 : decode cX7_init 19 = .ok (.bipush 64, 2) := by decide +kernel
theorem dX7_init_21 : decode cX7_init 21 = .ok (.if_icmp .gt 7, 3) := by decide +kernel
theorem dX7_init_24 : decode cX7_init 24 = .ok (.iconst 1, 1) := by decide +kernel
theorem dX7_init_25 : decode cX7_init 25 = .ok (.goto 4, 3) := by decide +kernel
theorem dX7_init_28 : decode cX7_init 28 = .ok (.iconst 0, 1) := by decide +kernel
theorem dX7_init_29 : decode cX7_init 29 = .ok (.istore_n 3, 1) := by decide +kernel
theorem dX7_init_30 : decode cX7_init 30 = .ok (.aload_n 0, 1) := by decide +kernel
theorem dX7_init_31 : decode cX7_init 31 = .ok (.iload_n 3, 1) := by decide +kernel
theorem dX7_init_32 : decode cX7_init 32 = .ok (.ifCond .eq 7, 3) := by decide +kernel
theorem dX7_init_35 : decode cX7_init 35 = .ok (.iload_n 1, 1) := by decide +kernel
theorem dX7_init_36 : decode cX7_init 36 = .ok (.goto 4, 3) := by decide +kernel
theorem dX7_init_39 : decode cX7_init 39 = .ok (.iconst 0, 1) := by decide +kernel
theorem dX7_init_40 : decode cX7_init 40 = .ok (.putfield 11, 3) := by decide +kernel
theorem dX7_init_43 : decode cX7_init 43 = .ok (.aload_n 0, 1) := by decide +kernel
theorem dX7_init_44 : decode cX7_init 44 = .ok (.iload_n 3, 1) := by decide +kernel
theorem dX7_init_45 : decode cX7_init 45 = .ok (.ifCond .eq 7, 3) := by decide +kernel
theorem dX7_init_48 : decode cX7_init 48 = .ok (.iload_n 2, 1) := by decide +kernel
theorem dX7_init_49 : decode cX7_init 49 = .ok (.goto 4, 3) := by decide +kernel
theorem dX7_init_52 : decode cX7_init 52 = .ok (.iconst 0, 1) := by decide +kernel
theorem dX7_init_53 : decode cX7_init 53 = .ok (.putfield 15, 3) := by decide +kernel
theorem dX7_init_56 : decode cX7_init 56 = .ok (.aload_n 0, 1) := by decide +kernel
theorem dX7_init_57 : decode cX7_init 57 = .ok (.iload_n 3, 1) := by decide +kernel
theorem dX7_init_58 : decode cX7_init 58 = .ok (.ifCond .eq 11, 3) := by decide +kernel
theorem dX7_init_61 : decode cX7_init 61 = .ok (.iload_n 1, 1) := by decide +kernel
theorem dX7_init_62 : decode cX7_init 62 = .ok (.iload_n 2, 1) := by decide +kernel
theorem dX7_init_63 : decode cX7_init 63 = .ok (.imul, 1) := by decide +kernel
theorem dX7_init_64 : decode cX7_init 64 = .ok (.newarray .int, 2) := by decide +kernel
theorem dX7_init_66 : decode cX7_init 66 = .ok (.goto 6, 3) := by decide +kernel
theorem dX7_init_69 : decode cX7_init 69 = .ok (.iconst 0, 1) := by decide +kernel
theorem dX7_init_70 : decode cX7_init 70 = .ok (.newarray .int, 2) := by decide +kernel
theorem dX7_init_72 : decode cX7_init 72 = .ok (.putfield 18, 3) := by decide +kernel
theorem dX7_init_75 : decode cX7_init 75 = .ok (.return_, 1) := by decide +kernel
theorem dX7_get_0 : decode cX7_get 0 = .ok (.iload_n 1, 1) := by decide +kernel
theorem dX7_get_1 : decode cX7_get 1 = .ok (.ifCond .lt 23, 3) := by decide +kernel
theorem dX7_get_4 : decode cX7_get 4 = .ok (.iload_n 1, 1) := by decide +kernel
theorem dX7_get_5 : decode cX7_get 5 = .ok (.aload_n 0, 1) := by decide +kernel
theorem dX7_get_6 : decode cX7_get 6 = .ok (.getfield 11, 3) := by decide +kernel
theorem dX7_get_9 : decode cX7_get 9 = .ok (.if_icmp .ge 15, 3) := by decide +kernel
theorem dX7_get_12 : decode cX7_get 12 = .ok (.iload_n 2, 1) := by decide +kernel
theorem dX7_get_13 : decode cX7_get 13 = .ok (.ifCond .lt 11, 3) := by decide +kernel
theorem dX7_get_16 : decode cX7_get 16 = .ok (.iload_n 2, 1) := by decide +kernel
theorem dX7_get_17 : decode cX7_get 17 = .ok (.aload_n 0, 1) := by decide +kernel
theorem dX7_get_18 : decode cX7_get 18 = .ok (.getfield 15, 3) := by decide +kernel
theorem dX7_get_21 : decode cX7_get 21 = .ok (.if_icmp .lt 5, 3) := by decide +kernel
theorem dX7_get_24 : decode cX7_get 24 = .ok (.iconst (-1), 1) := by decide +kernel
theorem dX7_get_25 : decode cX7_get 25 = .ok (.ireturn, 1) := by decide +kernel
theorem dX7_get_26 : decode cX7_get 26 = .ok (.iload_n 1, 1) := by decide +kernel
theorem dX7_get_27 : decode cX7_get 27 = .ok (.aload_n 0, 1) := by decide +kernel
theorem dX7_get_28 : decode cX7_get 28 = .ok (.getfield 15, 3) := by decide +kernel
theorem dX7_get_31 : decode cX7_get 31 = .ok (.imul, 1) := by decide +kernel
theorem dX7_get_32 : decode cX7_get 32 = .ok (.iload_n 2, 1) := by decide +kernel
theorem dX7_get_33 : decode cX7_get 33 = .ok (.iadd, 1) := by decide +kernel
theorem dX7_get_34 : decode cX7_get 34 = .ok (.istore_n 3, 1) := by decide +kernel
theorem dX7_get_35 : decode cX7_get 35 = .ok (.iload_n 3, 1) := by decide +kernel
theorem dX7_get_36 : decode cX7_get 36 = .ok (.aload_n 0, 1) := by decide +kernel
theorem dX7_get_37 : decode cX7_get 37 = .ok (.getfield 18, 3) := by decide +kernel
theorem dX7_get_40 : decode cX7_get 40 = .ok (.arraylength, 1) := by decide +kernel
theorem dX7_get_41 : decode cX7_get 41 = .ok (.if_icmp .ge 12, 3) := by decide +kernel
theorem dX7_get_44 : decode cX7_get 44 = .ok (.aload_n 0, 1) := by decide +kernel
theorem dX7_get_45 : decode cX7_get 45 = .ok (.getfield 18, 3) := by decide +kernel
theorem dX7_get_48 : decode cX7_get 48 = .ok (.iload_n 3, 1) := by decide +kernel
theorem dX7_get_49 : decode cX7_get 49 = .ok (.iaload, 1) := by decide +kernel
theorem dX7_get_50 : decode cX7_get 50 = .ok (.goto 4, 3) := by decide +kernel
theorem dX7_get_53 : decode cX7_get 53 = .ok (.iconst (-1), 1) := by decide +kernel
theorem dX7_get_54 : decode cX7_get 54 = .ok (.ireturn, 1) := by decide +kernel
theorem dX7_put_0 : decode cX7_put 0 = .ok (.iload_n 1, 1) := by decide +kernel
theorem dX7_put_1 : decode cX7_put 1 = .ok (.ifCond .lt 23, 3) := by decide +kernel
theorem dX7_put_4 : decode cX7_put 4 = .ok (.iload_n 1, 1) := by decide +kernel
theorem dX7_put_5 : decode cX7_put 5 = .ok (.aload_n 0, 1) := by decide +kernel
theorem dX7_put_6 : decode cX7_put 6 = .ok (.getfield 11, 3) := by decide +kernel
theorem dX7_put_9 : decode cX7_put 9 = .ok (.if_icmp .ge 15, 3) := by decide +kernel
theorem dX7_put_12 : decode cX7_put 12 = .ok (.iload_n 2, 1) := by decide +kernel
theorem dX7_put_13 : decode cX7_put 13 = .ok (.ifCond .lt 11, 3) := by decide +kernel
theorem dX7_put_16 : decode cX7_put 16 = .ok (.iload_n 2, 1) := by decide +kernel
theorem dX7_put_17 : decode cX7_put 17 = .ok (.aload_n 0, 1) := by decide +kernel
theorem dX7_put_18 : decode cX7_put 18 = .ok (.getfield 15, 3) := by decide +kernel
theorem dX7_put_21 : decode cX7_put 21 = .ok (.if_icmp .lt 4, 3) := by decide +kernel
theorem dX7_put_24 : decode cX7_put 24 = .ok (.return_, 1) := by decide +kernel
theorem dX7_put_25 : decode cX7_put 25 = .ok (.iload_n 1, 1) := by decide +kernel
theorem dX7_put_26 : decode cX7_put 26 = .ok (.aload_n 0, 1) := by decide +kernel
theorem dX7_put_27 : decode cX7_put 27 = .ok (.getfield 15, 3) := by decide +kernel
theorem dX7_put_30 : decode cX7_put 30 = .ok (.imul, 1) := by decide +kernel
theorem dX7_put_31 : decode cX7_put 31 = .ok (.iload_n 2, 1) := by decide +kernel
theorem dX7_put_32 : decode cX7_put 32 = .ok (.iadd, 1) := by decide +kernel
theorem dX7_put_33 : decode cX7_put 33 = .ok (.istore 4, 2) := by decide +kernel
theorem dX7_put_35 : decode cX7_put 35 = .ok (.iload 4, 2) := by decide +kernel
theorem dX7_put_37 : decode cX7_put 37 = .ok (.aload_n 0, 1) := by decide +kernel
theorem dX7_put_38 : decode cX7_put 38 = .ok (.getfield 18, 3) := by decide +kernel
theorem dX7_put_41 : decode cX7_put 41 = .ok (.arraylength, 1) := by decide +kernel
theorem dX7_put_42 : decode cX7_put 42 = .ok (.if_icmp .ge 11, 3) := by decide +kernel
theorem dX7_put_45 : decode cX7_put 45 = .ok (.aload_n 0, 1) := by decide +kernel
theorem dX7_put_46 : decode cX7_put 46 = .ok (.getfield 18, 3) := by decide +kernel
theorem dX7_put_49 : decode cX7_put 49 = .ok (.iload 4, 2) := by decide +kernel
theorem dX7_put_51 : decode cX7_put 51 = .ok (.iload_n 3, 1) := by decide +kernel
theorem dX7_put_52 : decode cX7_put 52 = .ok (.iastore, 1) := by decide +kernel
theorem dX7_put_53 : decode cX7_put 53 = .ok (.return_, 1) := by decide +kernel
theorem dX7_grow_0 : decode cX7_grow 0 = .ok (.iload_n 1, 1) := by decide +kernel
theorem dX7_grow_1 : decode cX7_grow 1 = .ok (.ifCond .lt 23, 3) := by decide +kernel
theorem dX7_grow_4 : decode cX7_grow 4 = .ok (.iload_n 1, 1) := by decide +kernel
theorem dX7_grow_5 : decode cX7_grow 5 = .ok (.aload_n 0, 1) := by decide +kernel
theorem dX7_grow_6 : decode cX7_grow 6 = .ok (.getfield 11, 3) := by decide +kernel
theorem dX7_grow_9 : decode cX7_grow 9 = .ok (.if_icmp .ge 15, 3) := by decide +kernel
theorem dX7_grow_12 : decode cX7_grow 12 = .ok (.iload_n 2, 1) := by decide +kernel
theorem dX7_grow_13 : decode cX7_grow 13 = .ok (.ifCond .lt 11, 3) := by decide +kernel
theorem dX7_grow_16 : decode cX7_grow 16 = .ok (.iload_n 2, 1) := by decide +kernel
theorem dX7_grow_17 : decode cX7_grow 17 = .ok (.aload_n 0, 1) := by decide +kernel
theorem dX7_grow_18 : decode cX7_grow 18 = .ok (.getfield 15, 3) := by decide +kernel
theorem dX7_grow_21 : decode cX7_grow 21 = .ok (.if_icmp .lt 4, 3) := by decide +kernel
theorem dX7_grow_24 : decode cX7_grow 24 = .ok (.return_, 1) := by decide +kernel
theorem dX7_grow_25 : decode cX7_grow 25 = .ok (.iload_n 1, 1) := by decide +kernel
theorem dX7_grow_26 : decode cX7_grow 26 = .ok (.aload_n 0, 1) := by decide +kernel
theorem dX7_grow_27 : decode cX7_grow 27 = .ok (.getfield 15, 3) := by decide +kernel
theorem dX7_grow_30 : decode cX7_grow 30 = .ok (.imul, 1) := by decide +kernel
theorem dX7_grow_31 : decode cX7_grow 31 = .ok (.iload_n 2, 1) := by decide +kernel
theorem dX7_grow_32 : decode cX7_grow 32 = .ok (.iadd, 1) := by decide +kernel
theorem dX7_grow_33 : decode cX7_grow 33 = .ok (.istore 4, 2) := by decide +kernel
theorem dX7_grow_35 : decode cX7_grow 35 = .ok (.iload 4, 2) := by decide +kernel
theorem dX7_grow_37 : decode cX7_grow 37 = .ok (.aload_n 0, 1) := by decide +kernel
theorem dX7_grow_38 : decode cX7_grow 38 = .ok (.getfield 18, 3) := by decide +kernel
theorem dX7_grow_41 : decode cX7_grow 41 = .ok (.arraylength, 1) := by decide +kernel
theorem dX7_grow_42 : decode cX7_grow 42 = .ok (.if_icmp .ge 14, 3) := by decide +kernel
theorem dX7_grow_45 : decode cX7_grow 45 = .ok (.aload_n 0, 1) := by decide +kernel
theorem dX7_grow_46 : decode cX7_grow 46 = .ok (.getfield 18, 3) := by decide +kernel
theorem dX7_grow_49 : decode cX7_grow 49 = .ok (.iload 4, 2) := by decide +kernel
theorem dX7_grow_51 : decode cX7_grow 51 = .ok (.dup2, 1) := by decide +kernel
theorem dX7_grow_52 : decode cX7_grow 52 = .ok (.iaload, 1) := by decide +kernel
theorem dX7_grow_53 : decode cX7_grow 53 = .ok (.iload_n 3, 1) := by decide +kernel
theorem dX7_grow_54 : decode cX7_grow 54 = .ok (.iadd, 1) := by decide +kernel
theorem dX7_grow_55 : decode cX7_grow 55 = .ok (.iastore, 1) := by decide +kernel
theorem dX7_grow_56 : decode cX7_grow 56 = .ok (.return_, 1) := by decide +kernel
theorem dX7_clearTo_0 : decode cX7_clearTo 0 = .ok (.iconst 0, 1) := by decide +kernel
theorem dX7_clearTo_1 : decode cX7_clearTo 1 = .ok (.istore_n 2, 1) := by decide +kernel
theorem dX7_clearTo_2 : decode cX7_clearTo 2 = .ok (.iload_n 2, 1) := by decide +kernel
theorem dX7_clearTo_3 : decode cX7_clearTo 3 = .ok (.aload_n 0, 1) := by decide +kernel
theorem dX7_clearTo_4 : decode cX7_clearTo 4 = .ok (.getfield 18, 3) := by decide +kernel
theorem dX7_clearTo_7 : decode cX7_clearTo 7 = .ok (.arraylength, 1) := by decide +kernel
theorem dX7_clearTo_8 : decode cX7_clearTo 8 = .ok (.if_icmp .ge 16, 3) := by decide +kernel
theorem dX7_clearTo_11 : decode cX7_clearTo 11 = .ok (.aload_n 0, 1) := by decide +kernel
theorem dX7_clearTo_12 : decode cX7_clearTo 12 = .ok (.getfield 18, 3) := by decide +kernel
theorem dX7_clearTo_15 : decode cX7_clearTo 15 = .ok (.iload_n 2, 1) := by decide +kernel
theorem dX7_clearTo_16 : decode cX7_clearTo 16 = .ok (.iload_n 1, 1) := by decide +kernel
theorem dX7_clearTo_17 : decode cX7_clearTo 17 = .ok (.iastore, 1) := by decide +kernel
theorem dX7_clearTo_18 : decode cX7_clearTo 18 = .ok (.iinc 2 1, 3) := by decide +kernel
theorem dX7_clearTo_21 : decode cX7_clearTo 21 = .ok (.goto (-19), 3) := by decide +kernel
theorem dX7_clearTo_24 : decode cX7_clearTo 24 = .ok (.return_, 1) := by decide +kernel
theorem dX7_copyFrom_0 : decode cX7_copyFrom 0 = .ok (.aload_n 1, 1) := by decide +kernel
theorem dX7_copyFrom_1 : decode cX7_copyFrom 1 = .ok (.getfield 18, 3) := by decide +kernel
theorem dX7_copyFrom_4 : decode cX7_copyFrom 4 = .ok (.iconst 0, 1) := by decide +kernel
theorem dX7_copyFrom_5 : decode cX7_copyFrom 5 = .ok (.aload_n 0, 1) := by decide +kernel
theorem dX7_copyFrom_6 : decode cX7_copyFrom 6 = .ok (.getfield 18, 3) := by decide +kernel
theorem dX7_copyFrom_9 : decode cX7_copyFrom 9 = .ok (.iconst 0, 1) := by decide +kernel
theorem dX7_copyFrom_10 : decode cX7_copyFrom 10 = .ok (.aload_n 0, 1) := by decide +kernel
theorem dX7_copyFrom_11 : decode cX7_copyFrom 11 = .ok (.getfield 18, 3) := by decide +kernel
theorem dX7_copyFrom_14 : decode cX7_copyFrom 14 = .ok (.arraylength, 1) := by decide +kernel
theorem dX7_copyFrom_15 : decode cX7_copyFrom 15 = .ok (.aload_n 1, 1) := by decide +kernel
theorem dX7_copyFrom_16 : decode cX7_copyFrom 16 = .ok (.getfield 18, 3) := by decide +kernel
theorem dX7_copyFrom_19 : decode cX7_copyFrom 19 = .ok (.arraylength, 1) := by decide +kernel
theorem dX7_copyFrom_20 : decode cX7_copyFrom 20 = .ok (.invokestatic 22, 3) := by decide +kernel
theorem dX7_copyFrom_23 : decode cX7_copyFrom 23 = .ok (.invokestatic 28, 3) := by decide +kernel
theorem dX7_copyFrom_26 : decode cX7_copyFrom 26 = .ok (.return_, 1) := by decide +kernel
theorem dX7_removeRow_0 : decode cX7_removeRow 0 = .ok (.iload_n 1, 1) := by decide +kernel
theorem dX7_removeRow_1 : decode cX7_removeRow 1 = .ok (.iconst 1, 1) := by decide +kernel
theorem dX7_removeRow_2 : decode cX7_removeRow 2 = .ok (.iadd, 1) := by decide +kernel
theorem dX7_removeRow_3 : decode cX7_removeRow 3 = .ok (.istore_n 2, 1) := by decide +kernel
theorem dX7_removeRow_4 : decode cX7_removeRow 4 = .ok (.iload_n 2, 1) := by decide +kernel
theorem dX7_removeRow_5 : decode cX7_removeRow 5 = .ok (.aload_n 0, 1) := by decide +kernel
theorem dX7_removeRow_6 : decode cX7_removeRow 6 = .ok (.getfield 11, 3) := by decide +kernel
theorem dX7_removeRow_9 : decode cX7_removeRow 9 = .ok (.if_icmp .ge 39, 3) := by decide +kernel
theorem dX7_removeRow_12 : decode cX7_removeRow 12 = .ok (.iconst 0, 1) := by decide +kernel
theorem dX7_removeRow_13 : decode cX7_removeRow 13 = .ok (.istore_n 3, 1) := by decide +kernel
theorem dX7_removeRow_14 : decode cX7_removeRow 14 = .ok (.iload_n 3, 1) := by decide +kernel
theorem dX7_removeRow_15 : decode cX7_removeRow 15 = .ok (.aload_n 0, 1) := by decide +kernel
theorem dX7_removeRow_16 : decode cX7_removeRow 16 = .ok (.getfield 15, 3) := by decide +kernel
theorem dX7_removeRow_19 : decode cX7_removeRow 19 = .ok (.if_icmp .ge 23, 3) := by decide +kernel
theorem dX7_removeRow_22 : decode cX7_removeRow 22 = .ok (.aload_n 0, 1) := by decide +kernel
theorem dX7_removeRow_23 : decode cX7_removeRow 23 = .ok (.iload_n 2, 1) := by decide +kernel
theorem dX7_removeRow_24 : decode cX7_removeRow 24 = .ok (.iconst 1, 1) := by decide +kernel
theorem dX7_removeRow_25 : decode cX7_removeRow 25 = .ok (.isub, 1) := by decide +kernel
theorem dX7_removeRow_26 : decode cX7_removeRow 26 = .ok (.iload_n 3, 1) := by decide +kernel
theorem dX7_removeRow_27 : decode cX7_removeRow 27 = .ok (.aload_n 0, 1) := by decide +kernel
theorem dX7_removeRow_28 : decode cX7_removeRow 28 = .ok (.iload_n 2, 1) := by decide +kernel
theorem dX7_removeRow_29 : decode cX7_removeRow 29 = .ok (.iload_n 3, 1) := by decide +kernel
theorem dX7_removeRow_30 : decode cX7_removeRow 30 = .ok (.invokevirtual 34, 3) := by decide +kernel
theorem dX7_removeRow_33 : decode cX7_removeRow 33 = .ok (.invokevirtual 37, 3) := by decide +kernel
theorem dX7_removeRow_36 : decode cX7_removeRow 36 = .ok (.iinc 3 1, 3) := by decide +kernel
theorem dX7_removeRow_39 : decode cX7_removeRow 39 = .ok (.goto (-25), 3) := by decide +kernel
theorem dX7_removeRow_42 : decode cX7_removeRow 42 = .ok (.iinc 2 1, 3) := by decide +kernel
theorem dX7_removeRow_45 : decode cX7_removeRow 45 = .ok (.goto (-41), 3) := by decide +kernel
theorem dX7_removeRow_48 : decode cX7_removeRow 48 = .ok (.return_, 1) := by decide +kernel
theorem dX8_run_0 : decode cX8_run 0 = .ok (.iconst 0, 1) := by decide +kernel
theorem dX8_run_1 : decode cX8_run 1 = .ok (.istore_n 2, 1) := by decide +kernel
theorem dX8_run_2 : decode cX8_run 2 = .ok (.iload_n 2, 1) := by decide +kernel
theorem dX8_run_3 : decode cX8_run 3 = .ok (.iload_n 1, 1) := by decide +kernel
theorem dX8_run_4 : decode cX8_run 4 = .ok (.if_icmp .ge 53, 3) := by decide +kernel
theorem dX8_run_7 : decode cX8_run 7 = .ok (.aload_n 0, 1) := by decide +kernel
theorem dX8_run_8 : decode cX8_run 8 = .ok (.dup, 1) := by decide +kernel
theorem dX8_run_9 : decode cX8_run 9 = .ok (.getfield 9, 3) := by decide +kernel
theorem dX8_run_12 : decode cX8_run 12 = .ok (.iconst 1, 1) := by decide +kernel
theorem dX8_run_13 : decode cX8_run 13 = .ok (.iadd, 1) := by decide +kernel
theorem dX8_run_14 : decode cX8_run 14 = .ok (.putfield 9, 3) := by decide +kernel
theorem dX8_run_17 : decode cX8_run 17 = .ok (.aload_n 0, 1) := by decide +kernel
theorem dX8_run_18 : decode cX8_run 18 = .ok (.iconst 0, 1) := by decide +kernel
theorem dX8_run_19 : decode cX8_run 19 = .ok (.iconst 1, 1) := by decide +kernel
theorem dX8_run_20 : decode cX8_run 20 = .ok (.invokevirtual 15, 3) := by decide +kernel
theorem dX8_run_23 : decode cX8_run 23 = .ok (.aload_n 0, 1) := by decide +kernel
theorem dX8_run_24 : decode cX8_run 24 = .ok (.invokestatic 19, 3) := by decide +kernel
theorem dX8_run_27 : decode cX8_run 27 = .ok (.aload_n 0, 1) := by decide +kernel
theorem dX8_run_28 : decode cX8_run 28 = .ok (.getfield 9, 3) := by decide +kernel
theorem dX8_run_31 : decode cX8_run 31 = .ok (.bipush 60, 2) := by decide +kernel
theorem dX8_run_33 : decode cX8_run 33 = .ok (.irem, 1) := by decide +kernel
theorem dX8_run_34 : decode cX8_run 34 = .ok (.aload_n 0, 1) := by decide +kernel
theorem dX8_run_35 : decode cX8_run 35 = .ok (.bipush 9, 2) := by decide +kernel
theorem dX8_run_37 : decode cX8_run 37 = .ok (.invokevirtual 25, 3) := by decide +kernel
theorem dX8_run_40 : decode cX8_run 40 = .ok (.if_icmp .ge 7, 3) := by decide +kernel
theorem dX8_run_43 : decode cX8_run 43 = .ok (.aload_n 0, 1) := by decide +kernel
theorem dX8_run_44 : decode cX8_run 44 = .ok (.invokestatic 29, 3) := by decide +kernel
theorem dX8_run_47 : decode cX8_run 47 = .ok (.aload_n 0, 1) := by decide +kernel
theorem dX8_run_48 : decode cX8_run 48 = .ok (.invokestatic 32, 3) := by decide +kernel
theorem dX8_run_51 : decode cX8_run 51 = .ok (.iinc 2 1, 3) := by decide +kernel
theorem dX8_run_54 : decode cX8_run 54 = .ok (.goto (-52), 3) := by decide +kernel
theorem dX8_run_57 : decode cX8_run 57 = .ok (.return_, 1) := by decide +kernel
theorem dX8_landAll_0 : decode cX8_landAll 0 = .ok (.aload_n 0, 1) := by decide +kernel
theorem dX8_landAll_1 : decode cX8_landAll 1 = .ok (.getfield 35, 3) := by decide +kernel
theorem dX8_landAll_4 : decode cX8_landAll 4 = .ok (.istore_n 1, 1) := by decide +kernel
theorem dX8_landAll_5 : decode cX8_landAll 5 = .ok (.iconst 0, 1) := by decide +kernel
theorem dX8_landAll_6 : decode cX8_landAll 6 = .ok (.istore_n 2, 1) := by decide +kernel
theorem dX8_landAll_7 : decode cX8_landAll 7 = .ok (.iload_n 2, 1) := by decide +kernel
theorem dX8_landAll_8 : decode cX8_landAll 8 = .ok (.iload_n 1, 1) := by decide +kernel
theorem dX8_landAll_9 : decode cX8_landAll 9 = .ok (.if_icmp .ge 69, 3) := by decide +kernel
theorem dX8_landAll_12 : decode cX8_landAll 12 = .ok (.aload_n 0, 1) := by decide +kernel
theorem dX8_landAll_13 : decode cX8_landAll 13 = .ok (.getfield 38, 3) := by decide +kernel
theorem dX8_landAll_16 : decode cX8_landAll 16 = .ok (.iload_n 2, 1) := by decide +kernel
theorem dX8_landAll_17 : decode cX8_landAll 17 = .ok (.iconst 3, 1) := by decide +kernel
theorem dX8_landAll_18 : decode cX8_landAll 18 = .ok (.invokevirtual 42, 3) := by decide +kernel
theorem dX8_landAll_21 : decode cX8_landAll 21 = .ok (.iconst 1, 1) := by decide +kernel
theorem dX8_landAll_22 : decode cX8_landAll 22 = .ok (.if_icmp .ne 50, 3) := by decide +kernel
theorem dX8_landAll_25 : decode cX8_landAll 25 = .ok (.aload_n 0, 1) := by decide +kernel
theorem dX8_landAll_26 : decode cX8_landAll 26 = .ok (.getfield 38, 3) := by decide +kernel
theorem dX8_landAll_29 : decode cX8_landAll 29 = .ok (.iload_n 2, 1) := by decide +kernel
theorem dX8_landAll_30 : decode cX8_landAll 30 = .ok (.iconst 5, 1) := by decide +kernel
theorem dX8_landAll_31 : decode cX8_landAll 31 = .ok (.invokevirtual 42, 3) := by decide +kernel
theorem dX8_landAll_34 : decode cX8_landAll 34 = .ok (.aload_n 0, 1) := by decide +kernel
theorem dX8_landAll_35 : decode cX8_landAll 35 = .ok (.getfield 9, 3) := by decide +kernel
theorem dX8_landAll_38 : decode cX8_landAll 38 = .ok (.if_icmp .ne 34, 3) := by decide +kernel
theorem dX8_landAll_41 : decode cX8_landAll 41 = .ok (.aload_n 0, 1) := by decide +kernel
theorem dX8_landAll_42 : decode cX8_landAll 42 = .ok (.iload_n 2, 1) := by decide +kernel
theorem dX8_landAll_43 : decode cX8_landAll 43 = .ok (.invokestatic 48, 3) := by decide +kernel
theorem dX8_landAll_46 : decode cX8_landAll 46 = .ok (.aload_n 0, 1) := by decide +kernel
theorem dX8_landAll_47 : decode cX8_landAll 47 = .ok (.getfield 38, 3) := by decide +kernel
theorem dX8_landAll_50 : decode cX8_landAll 50 = .ok (.iload_n 2, 1) := by decide +kernel
theorem dX8_landAll_51 : decode cX8_landAll 51 = .ok (.iconst 4, 1) := by decide +kernel
theorem dX8_landAll_52 : decode cX8_landAll 52 = .ok (.invokevirtual 42, 3) := by decide +kernel
theorem dX8_landAll_55 : decode cX8_landAll 55 = .ok (.aload_n 0, 1) := by decide +kernel
theorem dX8_landAll_56 : decode cX8_landAll 56 = .ok (.getfield 38, 3) := by decide +kernel
theorem dX8_landAll_59 : decode cX8_landAll 59 = .ok (.iload_n 2, 1) := by decide +kernel
theorem dX8_landAll_60 : decode cX8_landAll 60 = .ok (.iconst 1, 1) := by decide +kernel
theorem dX8_landAll_61 : decode cX8_landAll 61 = .ok (.invokevirtual 42, 3) := by decide +kernel
theorem dX8_landAll_64 : decode cX8_landAll 64 = .ok (.if_icmp .ne 8, 3) := by decide +kernel
theorem dX8_landAll_67 : decode cX8_landAll 67 = .ok (.aload_n 0, 1) := by decide +kernel
theorem dX8_landAll_68 : decode cX8_landAll 68 = .ok (.iload_n 2, 1) := by decide +kernel
theorem dX8_landAll_69 : decode cX8_landAll 69 = .ok (.invokestatic 52, 3) := by decide +kernel
theorem dX8_landAll_72 : decode cX8_landAll 72 = .ok (.iinc 2 1, 3) := by decide +kernel
theorem dX8_landAll_75 : decode cX8_landAll 75 = .ok (.goto (-68), 3) := by decide +kernel
theorem dX8_landAll_78 : decode cX8_landAll 78 = .ok (.return_, 1) := by decide +kernel
theorem dX8_land_0 : decode cX8_land 0 = .ok (.aload_n 0, 1) := by decide +kernel
theorem dX8_land_1 : decode cX8_land 1 = .ok (.getfield 38, 3) := by decide +kernel
theorem dX8_land_4 : decode cX8_land 4 = .ok (.iload_n 1, 1) := by decide +kernel
theorem dX8_land_5 : decode cX8_land 5 = .ok (.iconst 2, 1) := by decide +kernel
theorem dX8_land_6 : decode cX8_land 6 = .ok (.invokevirtual 42, 3) := by decide +kernel
theorem dX8_land_9 : decode cX8_land 9 = .ok (.istore_n 2, 1) := by decide +kernel
theorem dX8_land_10 : decode cX8_land 10 = .ok (.aload_n 0, 1) := by decide +kernel
theorem dX8_land_11 : decode cX8_land 11 = .ok (.aload_n 0, 1) := by decide +kernel
theorem dX8_land_12 : decode cX8_land 12 = .ok (.getfield 38, 3) := by decide +kernel
theorem dX8_land_15 : decode cX8_land 15 = .ok (.iload_n 1, 1) := by decide +kernel
theorem dX8_land_16 : decode cX8_land 16 = .ok (.bipush 12, 2) := by decide +kernel
theorem dX8_land_18 : decode cX8_land 18 = .ok (.invokevirtual 42, 3) := by decide +kernel
theorem dX8_land_21 : decode cX8_land 21 = .ok (.aload_n 0, 1) := by decide +kernel
theorem dX8_land_22 : decode cX8_land 22 = .ok (.getfield 38, 3) := by decide +kernel
theorem dX8_land_25 : decode cX8_land 25 = .ok (.iload_n 1, 1) := by decide +kernel
theorem dX8_land_26 : decode cX8_land 26 = .ok (.iconst 4, 1) := by decide +kernel
theorem dX8_land_27 : decode cX8_land 27 = .ok (.invokevirtual 42, 3) := by decide +kernel
theorem dX8_land_30 : decode cX8_land 30 = .ok (.iload_n 2, 1) := by decide +kernel
theorem dX8_land_31 : decode cX8_land 31 = .ok (.aload_n 0, 1) := by decide +kernel
theorem dX8_land_32 : decode cX8_land 32 = .ok (.bipush 8, 2) := by decide +kernel
theorem dX8_land_34 : decode cX8_land 34 = .ok (.invokevirtual 25, 3) := by decide +kernel
theorem dX8_land_37 : decode cX8_land 37 = .ok (.invokevirtual 55, 3) := by decide +kernel
theorem dX8_land_40 : decode cX8_land 40 = .ok (.istore_n 3, 1) := by decide +kernel
theorem dX8_land_41 : decode cX8_land 41 = .ok (.aload_n 0, 1) := by decide +kernel
theorem dX8_land_42 : decode cX8_land 42 = .ok (.getfield 38, 3) := by decide +kernel
theorem dX8_land_45 : decode cX8_land 45 = .ok (.iload_n 1, 1) := by decide +kernel
theorem dX8_land_46 : decode cX8_land 46 = .ok (.bipush 10, 2) := by decide +kernel
theorem dX8_land_48 : decode cX8_land 48 = .ok (.invokevirtual 42, 3) := by decide +kernel
theorem dX8_land_51 : decode cX8_land 51 = .ok (.istore 4, 2) := by decide +kernel
theorem dX8_land_53 : decode cX8_land 53 = .ok (.iconst 0, 1) := by decide +kernel
theorem dX8_land_54 : decode cX8_land 54 = .ok (.istore 5, 2) := by decide +kernel
theorem dX8_land_56 : decode cX8_land 56 = .ok (.iload 5, 2) := by decide +kernel
theorem dX8_land_58 : decode cX8_land 58 = .ok (.iload_n 3, 1) := by decide +kernel
theorem dX8_land_59 : decode cX8_land 59 = .ok (.if_icmp .ge 26, 3) := by decide +kernel
theorem dX8_land_62 : decode cX8_land 62 = .ok (.iload_n 2, 1) := by decide +kernel
theorem dX8_land_63 : decode cX8_land 63 = .ok (.ifCond .le 22, 3) := by decide +kernel
theorem dX8_land_66 : decode cX8_land 66 = .ok (.iload 4, 2) := by decide +kernel
theorem dX8_land_68 : decode cX8_land 68 = .ok (.iload_n 1, 1) := by decide +kernel
theorem dX8_land_69 : decode cX8_land 69 = .ok (.iload 5, 2) := by decide +kernel
theorem dX8_land_71 : decode cX8_land 71 = .ok (.iadd, 1) := by decide +kernel
theorem dX8_land_72 : decode cX8_land 72 = .ok (.iload_n 2, 1) := by decide +kernel
theorem dX8_land_73 : decode cX8_land 73 = .ok (.irem, 1) := by decide +kernel
theorem dX8_land_74 : decode cX8_land 74 = .ok (.invokestatic 59, 3) := by decide +kernel
theorem dX8_land_77 : decode cX8_land 77 = .ok (.istore 4, 2) := by decide +kernel
theorem dX8_land_79 : decode cX8_land 79 = .ok (.iinc 5 1, 3) := by decide +kernel
theorem dX8_land_82 : decode cX8_land 82 = .ok (.goto (-26), 3) := by decide +kernel
theorem dX8_land_85 : decode cX8_land 85 = .ok (.aload_n 0, 1) := by decide +kernel
theorem dX8_land_86 : decode cX8_land 86 = .ok (.getfield 38, 3) := by decide +kernel
theorem dX8_land_89 : decode cX8_land 89 = .ok (.iload_n 1, 1) := by decide +kernel
theorem dX8_land_90 : decode cX8_land 90 = .ok (.bipush 10, 2) := by decide +kernel
theorem dX8_land_92 : decode cX8_land 92 = .ok (.iload 4, 2) := by decide +kernel
theorem dX8_land_94 : decode cX8_land 94 = .ok (.invokevirtual 62, 3) := by decide +kernel
theorem dX8_land_97 : decode cX8_land 97 = .ok (.aload_n 0, 1) := by decide +kernel
theorem dX8_land_98 : decode cX8_land 98 = .ok (.getfield 38, 3) := by decide +kernel
theorem dX8_land_101 : decode cX8_land 101 = .ok (.iload_n 1, 1) := by decide +kernel
theorem dX8_land_102 : decode cX8_land 102 = .ok (.iconst 3, 1) := by decide +kernel
theorem dX8_land_103 : decode cX8_land 103 = .ok (.iconst 0, 1) := by decide +kernel
theorem dX8_land_104 : decode cX8_land 104 = .ok (.invokevirtual 62, 3) := by decide +kernel
theorem dX8_land_107 : decode cX8_land 107 = .ok (.aload_n 0, 1) := by decide +kernel
theorem dX8_land_108 : decode cX8_land 108 = .ok (.getfield 38, 3) := by decide +kernel
theorem dX8_land_111 : decode cX8_land 111 = .ok (.iload_n 1, 1) := by decide +kernel
theorem dX8_land_112 : decode cX8_land 112 = .ok (.iconst 5, 1) := by decide +kernel
theorem dX8_land_113 : decode cX8_land 113 = .ok (.iconst (-1), 1) := by decide +kernel
theorem dX8_land_114 : decode cX8_land 114 = .ok (.invokevirtual 62, 3) := by decide +kernel
theorem dX8_land_117 : decode cX8_land 117 = .ok (.aload_n 0, 1) := by decide +kernel
theorem dX8_land_118 : decode cX8_land 118 = .ok (.iconst 4, 1) := by decide +kernel
theorem dX8_land_119 : decode cX8_land 119 = .ok (.iload_n 3, 1) := by decide +kernel
theorem dX8_land_120 : decode cX8_land 120 = .ok (.invokevirtual 15, 3) := by decide +kernel
theorem dX8_land_123 : decode cX8_land 123 = .ok (.return_, 1) := by decide +kernel
theorem dX8_raised_0 : decode cX8_raised 0 = .ok (.iconst 3, 1) := by decide +kernel
theorem dX8_raised_1 : decode cX8_raised 1 = .ok (.iload_n 1, 1) := by decide +kernel
theorem dX8_raised_2 : decode cX8_raised 2 = .ok (.imul, 1) := by decide +kernel
theorem dX8_raised_3 : decode cX8_raised 3 = .ok (.istore_n 2, 1) := by decide +kernel
theorem dX8_raised_4 : decode cX8_raised 4 = .ok (.iload_n 0, 1) := by decide +kernel
theorem dX8_raised_5 : decode cX8_raised 5 = .ok (.iload_n 1, 1) := by decide +kernel
theorem dX8_raised_6 : decode cX8_raised 6 = .ok (.invokestatic 66, 3) := by decide +kernel
theorem dX8_raised_9 : decode cX8_raised 9 = .ok (.iconst 1, 1) := by decide +kernel
theorem dX8_raised_10 : decode cX8_raised 10 = .ok (.iadd, 1) := by decide +kernel
theorem dX8_raised_11 : decode cX8_raised 11 = .ok (.bipush 7, 2) := by decide +kernel
theorem dX8_raised_13 : decode cX8_raised 13 = .ok (.iand, 1) := by decide +kernel
theorem dX8_raised_14 : decode cX8_raised 14 = .ok (.istore_n 3, 1) := by decide +kernel
theorem dX8_raised_15 : decode cX8_raised 15 = .ok (.iload_n 0, 1) := by decide +kernel
theorem dX8_raised_16 : decode cX8_raised 16 = .ok (.bipush 7, 2) := by decide +kernel
theorem dX8_raised_18 : decode cX8_raised 18 = .ok (.iload_n 2, 1) := by decide +kernel
theorem dX8_raised_19 : decode cX8_raised 19 = .ok (.ishl, 1) := by decide +kernel
theorem dX8_raised_20 : decode cX8_raised 20 = .ok (.iconst (-1), 1) := by decide +kernel
theorem dX8_raised_21 : decode cX8_raised 21 = .ok (.ixor, 1) := by decide +kernel
theorem dX8_raised_22 : decode cX8_raised 22 = .ok (.iand, 1) := by decide +kernel
theorem dX8_raised_23 : decode cX8_raised 23 = .ok (.iload_n 3, 1) := by decide +kernel
theorem dX8_raised_24 : decode cX8_raised 24 = .ok (.iload_n 2, 1) := by decide +kernel
theorem dX8_raised_25 : decode cX8_raised 25 = .ok (.ishl, 1) := by decide +kernel
theorem dX8_raised_26 : decode cX8_raised 26 = .ok (.ior, 1) := by decide +kernel
theorem dX8_raised_27 : decode cX8_raised 27 = .ok (.ireturn, 1) := by decide +kernel
theorem dX8_reachGoal_0 : decode cX8_reachGoal 0 = .ok (.aload_n 0, 1) := by decide +kernel
theorem dX8_reachGoal_1 : decode cX8_reachGoal 1 = .ok (.getfield 38, 3) := by decide +kernel
theorem dX8_reachGoal_4 : decode cX8_reachGoal 4 = .ok (.iload_n 1, 1) := by decide +kernel
theorem dX8_reachGoal_5 : decode cX8_reachGoal 5 = .ok (.bipush 9, 2) := by decide +kernel
theorem dX8_reachGoal_7 : decode cX8_reachGoal 7 = .ok (.invokevirtual 42, 3) := by decide +kernel
theorem dX8_reachGoal_10 : decode cX8_reachGoal 10 = .ok (.istore_n 2, 1) := by decide +kernel
theorem dX8_reachGoal_11 : decode cX8_reachGoal 11 = .ok (.aload_n 0, 1) := by decide +kernel
theorem dX8_reachGoal_12 : decode cX8_reachGoal 12 = .ok (.getfield 38, 3) := by decide +kernel
theorem dX8_reachGoal_15 : decode cX8_reachGoal 15 = .ok (.iload_n 1, 1) := by decide +kernel
theorem dX8_reachGoal_16 : decode cX8_reachGoal 16 = .ok (.bipush 10, 2) := by decide +kernel
theorem dX8_reachGoal_18 : decode cX8_reachGoal 18 = .ok (.invokevirtual 42, 3) := by decide +kernel
theorem dX8_reachGoal_21 : decode cX8_reachGoal 21 = .ok (.iload_n 2, 1) := by decide +kernel
theorem dX8_reachGoal_22 : decode cX8_reachGoal 22 = .ok (.if_icmp .ne 7, 3) := by decide +kernel
theorem dX8_reachGoal_25 : decode cX8_reachGoal 25 = .ok (.iconst 1, 1) := by decide +kernel
theorem dX8_reachGoal_26 : decode cX8_reachGoal 26 = .ok (.goto 4, 3) := by decide +kernel
theorem dX8_reachGoal_29 : decode cX8_reachGoal 29 = .ok (.iconst 0, 1) := by decide +kernel
theorem dX8_reachGoal_30 : decode cX8_reachGoal 30 = .ok (.istore_n 3, 1) := by decide +kernel
theorem dX8_reachGoal_31 : decode cX8_reachGoal 31 = .ok (.iload_n 3, 1) := by decide +kernel
theorem dX8_reachGoal_32 : decode cX8_reachGoal 32 = .ok (.ifCond .ne 70, 3) := by decide +kernel
theorem dX8_reachGoal_35 : decode cX8_reachGoal 35 = .ok (.aload_n 0, 1) := by decide +kernel
theorem dX8_reachGoal_36 : decode cX8_reachGoal 36 = .ok (.getfield 38, 3) := by decide +kernel
theorem dX8_reachGoal_39 : decode cX8_reachGoal 39 = .ok (.iload_n 1, 1) := by decide +kernel
theorem dX8_reachGoal_40 : decode cX8_reachGoal 40 = .ok (.bipush 8, 2) := by decide +kernel
theorem dX8_reachGoal_42 : decode cX8_reachGoal 42 = .ok (.invokevirtual 42, 3) := by decide +kernel
theorem dX8_reachGoal_45 : decode cX8_reachGoal 45 = .ok (.aload_n 0, 1) := by decide +kernel
theorem dX8_reachGoal_46 : decode cX8_reachGoal 46 = .ok (.bipush 10, 2) := by decide +kernel
theorem dX8_reachGoal_48 : decode cX8_reachGoal 48 = .ok (.invokevirtual 25, 3) := by decide +kernel
theorem dX8_reachGoal_51 : decode cX8_reachGoal 51 = .ok (.if_icmp .ge 51, 3) := by decide +kernel
theorem dX8_reachGoal_54 : decode cX8_reachGoal 54 = .ok (.aload_n 0, 1) := by decide +kernel
theorem dX8_reachGoal_55 : decode cX8_reachGoal 55 = .ok (.getfield 38, 3) := by decide +kernel
theorem dX8_reachGoal_58 : decode cX8_reachGoal 58 = .ok (.iload_n 1, 1) := by decide +kernel
theorem dX8_reachGoal_59 : decode cX8_reachGoal 59 = .ok (.bipush 8, 2) := by decide +kernel
theorem dX8_reachGoal_61 : decode cX8_reachGoal 61 = .ok (.iconst 1, 1) := by decide +kernel
theorem dX8_reachGoal_62 : decode cX8_reachGoal 62 = .ok (.invokevirtual 69, 3) := by decide +kernel
theorem dX8_reachGoal_65 : decode cX8_reachGoal 65 = .ok (.aload_n 0, 1) := by decide +kernel
theorem dX8_reachGoal_66 : decode cX8_reachGoal 66 = .ok (.getfield 38, 3) := by decide +kernel
theorem dX8_reachGoal_69 : decode cX8_reachGoal 69 = .ok (.iload_n 1, 1) := by decide +kernel
theorem dX8_reachGoal_70 : decode cX8_reachGoal 70 = .ok (.bipush 10, 2) := by decide +kernel
theorem dX8_reachGoal_72 : decode cX8_reachGoal 72 = .ok (.iload_n 2, 1) := by decide +kernel
theorem dX8_reachGoal_73 : decode cX8_reachGoal 73 = .ok (.invokevirtual 62, 3) := by decide +kernel
theorem dX8_reachGoal_76 : decode cX8_reachGoal 76 = .ok (.aload_n 0, 1) := by decide +kernel
theorem dX8_reachGoal_77 : decode cX8_reachGoal 77 = .ok (.getfield 38, 3) := by decide +kernel
theorem dX8_reachGoal_80 : decode cX8_reachGoal 80 = .ok (.iload_n 1, 1) := by decide +kernel
theorem dX8_reachGoal_81 : decode cX8_reachGoal 81 = .ok (.iconst 4, 1) := by decide +kernel
theorem dX8_reachGoal_82 : decode cX8_reachGoal 82 = .ok (.aload_n 0, 1) := by decide +kernel
theorem dX8_reachGoal_83 : decode cX8_reachGoal 83 = .ok (.getfield 38, 3) := by decide +kernel
theorem dX8_reachGoal_86 : decode cX8_reachGoal 86 = .ok (.iload_n 1, 1) := by decide +kernel
theorem dX8_reachGoal_87 : decode cX8_reachGoal 87 = .ok (.iconst 0, 1) := by decide +kernel
theorem dX8_reachGoal_88 : decode cX8_reachGoal 88 = .ok (.invokevirtual 42, 3) := by decide +kernel
theorem dX8_reachGoal_91 : decode cX8_reachGoal 91 = .ok (.invokevirtual 62, 3) := by decide +kernel
theorem dX8_reachGoal_94 : decode cX8_reachGoal 94 = .ok (.aload_n 0, 1) := by decide +kernel
theorem dX8_reachGoal_95 : decode cX8_reachGoal 95 = .ok (.bipush 7, 2) := by decide +kernel
theorem dX8_reachGoal_97 : decode cX8_reachGoal 97 = .ok (.iconst 1, 1) := by decide +kernel
theorem dX8_reachGoal_98 : decode cX8_reachGoal 98 = .ok (.invokevirtual 15, 3) := by decide +kernel
theorem dX8_reachGoal_101 : decode cX8_reachGoal 101 = .ok (.return_, 1) := by decide +kernel
theorem dX8_reachGoal_102 : decode cX8_reachGoal 102 = .ok (.aload_n 0, 1) := by decide +kernel
theorem dX8_reachGoal_103 : decode cX8_reachGoal 103 = .ok (.getfield 38, 3) := by decide +kernel
theorem dX8_reachGoal_106 : decode cX8_reachGoal 106 = .ok (.iload_n 1, 1) := by decide +kernel
theorem dX8_reachGoal_107 : decode cX8_reachGoal 107 = .ok (.iconst 3, 1) := by decide +kernel
theorem dX8_reachGoal_108 : decode cX8_reachGoal 108 = .ok (.iconst 2, 1) := by decide +kernel
theorem dX8_reachGoal_109 : decode cX8_reachGoal 109 = .ok (.invokevirtual 62, 3) := by decide +kernel
theorem dX8_reachGoal_112 : decode cX8_reachGoal 112 = .ok (.aload_n 0, 1) := by decide +kernel
theorem dX8_reachGoal_113 : decode cX8_reachGoal 113 = .ok (.iconst 5, 1) := by decide +kernel
theorem dX8_reachGoal_114 : decode cX8_reachGoal 114 = .ok (.iconst 1, 1) := by decide +kernel
theorem dX8_reachGoal_115 : decode cX8_reachGoal 115 = .ok (.invokevirtual 15, 3) := by decide +kernel
theorem dX8_reachGoal_118 : decode cX8_reachGoal 118 = .ok (.iload_n 3, 1) := by decide +kernel
theorem dX8_reachGoal_119 : decode cX8_reachGoal 119 = .ok (.ifCond .ne 4, 3) := by decide +kernel
theorem dX8_reachGoal_122 : decode cX8_reachGoal 122 = .ok (.return_, 1) := by decide +kernel
theorem dX8_reachGoal_123 : decode cX8_reachGoal 123 = .ok (.aload_n 0, 1) := by decide +kernel
theorem dX8_reachGoal_124 : decode cX8_reachGoal 124 = .ok (.bipush 6, 2) := by decide +kernel
theorem dX8_reachGoal_126 : decode cX8_reachGoal 126 = .ok (.iconst 1, 1) := by decide +kernel
theorem dX8_reachGoal_127 : decode cX8_reachGoal 127 = .ok (.invokevirtual 15, 3) := by decide +kernel
theorem dX8_reachGoal_130 : decode cX8_reachGoal 130 = .ok (.aload_n 0, 1) := by decide +kernel
theorem dX8_reachGoal_131 : decode cX8_reachGoal 131 = .ok (.getfield 38, 3) := by decide +kernel
theorem dX8_reachGoal_134 : decode cX8_reachGoal 134 = .ok (.iload_n 1, 1) := by decide +kernel
theorem dX8_reachGoal_135 : decode cX8_reachGoal 135 = .ok (.bipush 7, 2) := by decide +kernel
theorem dX8_reachGoal_137 : decode cX8_reachGoal 137 = .ok (.invokevirtual 42, 3) := by decide +kernel
theorem dX8_reachGoal_140 : decode cX8_reachGoal 140 = .ok (.iconst 1, 1) := by decide +kernel
theorem dX8_reachGoal_141 : decode cX8_reachGoal 141 = .ok (.if_icmp .ne 62, 3) := by decide +kernel
theorem dX8_reachGoal_144 : decode cX8_reachGoal 144 = .ok (.aload_n 0, 1) := by decide +kernel
theorem dX8_reachGoal_145 : decode cX8_reachGoal 145 = .ok (.getfield 35, 3) := by decide +kernel
theorem dX8_reachGoal_148 : decode cX8_reachGoal 148 = .ok (.bipush 30, 2) := by decide +kernel
theorem dX8_reachGoal_150 : decode cX8_reachGoal 150 = .ok (.if_icmp .ge 53, 3) := by decide +kernel
theorem dX8_reachGoal_153 : decode cX8_reachGoal 153 = .ok (.aload_n 0, 1) := by decide +kernel
theorem dX8_reachGoal_154 : decode cX8_reachGoal 154 = .ok (.getfield 38, 3) := by decide +kernel
theorem dX8_reachGoal_157 : decode cX8_reachGoal 157 = .ok (.iload_n 1, 1) := by decide +kernel
theorem dX8_reachGoal_158 : decode cX8_reachGoal 158 = .ok (.iconst 2, 1) := by decide +kernel
theorem dX8_reachGoal_159 : decode cX8_reachGoal 159 = .ok (.invokevirtual 42, 3) := by decide +kernel
theorem dX8_reachGoal_162 : decode cX8_reachGoal 162 = .ok (.istore 4, 2) := by decide +kernel
theorem dX8_reachGoal_164 : decode cX8_reachGoal 164 = .ok (.aload_n 0, 1) := by decide +kernel
theorem dX8_reachGoal_165 : decode cX8_reachGoal 165 = .ok (.aload_n 0, 1) := by decide +kernel
theorem dX8_reachGoal_166 : decode cX8_reachGoal 166 = .ok (.getfield 38, 3) := by decide +kernel
theorem dX8_reachGoal_169 : decode cX8_reachGoal 169 = .ok (.iload_n 1, 1) := by decide +kernel
theorem dX8_reachGoal_170 : decode cX8_reachGoal 170 = .ok (.iconst 1, 1) := by decide +kernel
theorem dX8_reachGoal_171 : decode cX8_reachGoal 171 = .ok (.invokevirtual 42, 3) := by decide +kernel
theorem dX8_reachGoal_174 : decode cX8_reachGoal 174 = .ok (.aload_n 0, 1) := by decide +kernel
theorem dX8_reachGoal_175 : decode cX8_reachGoal 175 = .ok (.getfield 38, 3) := by decide +kernel
theorem dX8_reachGoal_178 : decode cX8_reachGoal 178 = .ok (.iload_n 1, 1) := by decide +kernel
theorem dX8_reachGoal_179 : decode cX8_reachGoal 179 = .ok (.iconst 0, 1) := by decide +kernel
theorem dX8_reachGoal_180 : decode cX8_reachGoal 180 = .ok (.invokevirtual 42, 3) := by decide +kernel
theorem dX8_reachGoal_183 : decode cX8_reachGoal 183 = .ok (.iload 4, 2) := by decide +kernel
theorem dX8_reachGoal_185 : decode cX8_reachGoal 185 = .ok (.iload_n 2, 1) := by decide +kernel
theorem dX8_reachGoal_186 : decode cX8_reachGoal 186 = .ok (.iload 4, 2) := by decide +kernel
theorem dX8_reachGoal_188 : decode cX8_reachGoal 188 = .ok (.invokestatic 72, 3) := by decide +kernel
theorem dX8_reachGoal_191 : decode cX8_reachGoal 191 = .ok (.iconst 1, 1) := by decide +kernel
theorem dX8_reachGoal_192 : decode cX8_reachGoal 192 = .ok (.iconst 0, 1) := by decide +kernel
theorem dX8_reachGoal_193 : decode cX8_reachGoal 193 = .ok (.invokevirtual 75, 3) := by decide +kernel
theorem dX8_reachGoal_196 : decode cX8_reachGoal 196 = .ok (.pop, 1) := by decide +kernel
theorem dX8_reachGoal_197 : decode cX8_reachGoal 197 = .ok (.aload_n 0, 1) := by decide +kernel
theorem dX8_reachGoal_198 : decode cX8_reachGoal 198 = .ok (.iconst 2, 1) := by decide +kernel
theorem dX8_reachGoal_199 : decode cX8_reachGoal 199 = .ok (.iconst 1, 1) := by decide +kernel
theorem dX8_reachGoal_200 : decode cX8_reachGoal 200 = .ok (.invokevirtual 15, 3) := by decide +kernel
theorem dX8_reachGoal_203 : decode cX8_reachGoal 203 = .ok (.return_, 1) := by decide +kernel
theorem dX8_turned_0 : decode cX8_turned 0 = .ok (.iconst 0, 1) := by decide +kernel
theorem dX8_turned_1 : decode cX8_turned 1 = .ok (.istore_n 2, 1) := by decide +kernel
theorem dX8_turned_2 : decode cX8_turned 2 = .ok (.iconst 0, 1) := by decide +kernel
theorem dX8_turned_3 : decode cX8_turned 3 = .ok (.istore_n 3, 1) := by decide +kernel
theorem dX8_turned_4 : decode cX8_turned 4 = .ok (.iload_n 3, 1) := by decide +kernel
theorem dX8_turned_5 : decode cX8_turned 5 = .ok (.iload_n 1, 1) := by decide +kernel
theorem dX8_turned_6 : decode cX8_turned 6 = .ok (.if_icmp .ge 19, 3) := by decide +kernel
theorem dX8_turned_9 : decode cX8_turned 9 = .ok (.iload_n 2, 1) := by decide +kernel
theorem dX8_turned_10 : decode cX8_turned 10 = .ok (.iconst 3, 1) := by decide +kernel
theorem dX8_turned_11 : decode cX8_turned 11 = .ok (.ishl, 1) := by decide +kernel
theorem dX8_turned_12 : decode cX8_turned 12 = .ok (.iload_n 0, 1) := by decide +kernel
theorem dX8_turned_13 : decode cX8_turned 13 = .ok (.iload_n 3, 1) := by decide +kernel
theorem dX8_turned_14 : decode cX8_turned 14 = .ok (.invokestatic 66, 3) := by decide +kernel
theorem dX8_turned_17 : decode cX8_turned 17 = .ok (.ior, 1) := by decide +kernel
theorem dX8_turned_18 : decode cX8_turned 18 = .ok (.istore_n 2, 1) := by decide +kernel
theorem dX8_turned_19 : decode cX8_turned 19 = .ok (.iinc 3 1, 3) := by decide +kernel
theorem dX8_turned_22 : decode cX8_turned 22 = .ok (.goto (-18), 3) := by decide +kernel
theorem dX8_turned_25 : decode cX8_turned 25 = .ok (.iload_n 2, 1) := by decide +kernel
theorem dX8_turned_26 : decode cX8_turned 26 = .ok (.ireturn, 1) := by decide +kernel
theorem dX8_whistleAll_0 : decode cX8_whistleAll 0 = .ok (.aload_n 0, 1) := by decide +kernel
theorem dX8_whistleAll_1 : decode cX8_whistleAll 1 = .ok (.invokestatic 79, 3) := by decide +kernel
theorem dX8_whistleAll_4 : decode cX8_whistleAll 4 = .ok (.istore_n 1, 1) := by decide +kernel
theorem dX8_whistleAll_5 : decode cX8_whistleAll 5 = .ok (.iconst 0, 1) := by decide +kernel
theorem dX8_whistleAll_6 : decode cX8_whistleAll 6 = .ok (.istore_n 2, 1) := by decide +kernel
theorem dX8_whistleAll_7 : decode cX8_whistleAll 7 = .ok (.iload_n 2, 1) := by decide +kernel
theorem dX8_whistleAll_8 : decode cX8_whistleAll 8 = .ok (.aload_n 0, 1) := by decide +kernel
theorem dX8_whistleAll_9 : decode cX8_whistleAll 9 = .ok (.getfield 83, 3) := by decide +kernel
theorem dX8_whistleAll_12 : decode cX8_whistleAll 12 = .ok (.if_icmp .ge 47, 3) := by decide +kernel
theorem dX8_whistleAll_15 : decode cX8_whistleAll 15 = .ok (.iload_n 1, 1) := by decide +kernel
theorem dX8_whistleAll_16 : decode cX8_whistleAll 16 = .ok (.iload_n 2, 1) := by decide +kernel
theorem dX8_whistleAll_17 : decode cX8_whistleAll 17 = .ok (.ishr, 1) := by decide +kernel
theorem dX8_whistleAll_18 : decode cX8_whistleAll 18 = .ok (.iconst 1, 1) := by decide +kernel
theorem dX8_whistleAll_19 : decode cX8_whistleAll 19 = .ok (.iand, 1) := by decide +kernel
theorem dX8_whistleAll_20 : decode cX8_whistleAll 20 = .ok (.iconst 1, 1) := by decide +kernel
theorem dX8_whistleAll_21 : decode cX8_whistleAll 21 = .ok (.if_icmp .ne 32, 3) := by decide +kernel
theorem dX8_whistleAll_24 : decode cX8_whistleAll 24 = .ok (.aload_n 0, 1) := by decide +kernel
theorem dX8_whistleAll_25 : decode cX8_whistleAll 25 = .ok (.iload_n 2, 1) := by decide +kernel
theorem dX8_whistleAll_26 : decode cX8_whistleAll 26 = .ok (.aload_n 0, 1) := by decide +kernel
theorem dX8_whistleAll_27 : decode cX8_whistleAll 27 = .ok (.getfield 9, 3) := by decide +kernel
theorem dX8_whistleAll_30 : decode cX8_whistleAll 30 = .ok (.invokevirtual 86, 3) := by decide +kernel
theorem dX8_whistleAll_33 : decode cX8_whistleAll 33 = .ok (.ifCond .ne 20, 3) := by decide +kernel
theorem dX8_whistleAll_36 : decode cX8_whistleAll 36 = .ok (.aload_n 0, 1) := by decide +kernel
theorem dX8_whistleAll_37 : decode cX8_whistleAll 37 = .ok (.iload_n 2, 1) := by decide +kernel
theorem dX8_whistleAll_38 : decode cX8_whistleAll 38 = .ok (.invokevirtual 90, 3) := by decide +kernel
theorem dX8_whistleAll_41 : decode cX8_whistleAll 41 = .ok (.istore_n 3, 1) := by decide +kernel
theorem dX8_whistleAll_42 : decode cX8_whistleAll 42 = .ok (.iload_n 3, 1) := by decide +kernel
theorem dX8_whistleAll_43 : decode cX8_whistleAll 43 = .ok (.iconst (-1), 1) := by decide +kernel
theorem dX8_whistleAll_44 : decode cX8_whistleAll 44 = .ok (.if_icmp .eq 9, 3) := by decide +kernel
theorem dX8_whistleAll_47 : decode cX8_whistleAll 47 = .ok (.aload_n 0, 1) := by decide +kernel
theorem dX8_whistleAll_48 : decode cX8_whistleAll 48 = .ok (.iload_n 2, 1) := by decide +kernel
theorem dX8_whistleAll_49 : decode cX8_whistleAll 49 = .ok (.iload_n 3, 1) := by decide +kernel
theorem dX8_whistleAll_50 : decode cX8_whistleAll 50 = .ok (.invokestatic 93, 3) := by decide +kernel
theorem dX8_whistleAll_53 : decode cX8_whistleAll 53 = .ok (.iinc 2 1, 3) := by decide +kernel
theorem dX8_whistleAll_56 : decode cX8_whistleAll 56 = .ok (.goto (-49), 3) := by decide +kernel
theorem dX8_whistleAll_59 : decode cX8_whistleAll 59 = .ok (.return_, 1) := by decide +kernel
theorem dX8_roofsWithTunes_0 : decode cX8_roofsWithTunes 0 = .ok (.iconst 0, 1) := by decide +kernel
theorem dX8_roofsWithTunes_1 : decode cX8_roofsWithTunes 1 = .ok (.istore_n 1, 1) := by decide +kernel
theorem dX8_roofsWithTunes_2 : decode cX8_roofsWithTunes 2 = .ok (.iconst 0, 1) := by decide +kernel
theorem dX8_roofsWithTunes_3 : decode cX8_roofsWithTunes 3 = .ok (.istore_n 2, 1) := by decide +kernel
theorem dX8_roofsWithTunes_4 : decode cX8_roofsWithTunes 4 = .ok (.iload_n 2, 1) := by decide +kernel
theorem dX8_roofsWithTunes_5 : decode cX8_roofsWithTunes 5 = .ok (.aload_n 0, 1) := by decide +kernel
theorem dX8_roofsWithTunes_6 : decode cX8_roofsWithTunes 6 = .ok (.getfield 35, 3) := by decide +kernel
theorem dX8_roofsWithTunes_9 : decode cX8_roofsWithTunes 9 = .ok (.if_icmp .ge 35, 3) := by decide +kernel
theorem dX8_roofsWithTunes_12 : decode cX8_roofsWithTunes 12 = .ok (.aload_n 0, 1) := by decide +kernel
theorem dX8_roofsWithTunes_13 : decode cX8_roofsWithTunes 13 = .ok (.getfield 38, 3) := by decide +kernel
theorem dX8_roofsWithTunes_16 : decode cX8_roofsWithTunes 16 = .ok (.iload_n 2, 1) := by decide +kernel
theorem dX8_roofsWithTunes_17 : decode cX8_roofsWithTunes 17 = .ok (.iconst 3, 1) := by decide +kernel
theorem dX8_roofsWithTunes_18 : decode cX8_roofsWithTunes 18 = .ok (.invokevirtual 42, 3) := by decide +kernel
theorem dX8_roofsWithTunes_21 : decode cX8_roofsWithTunes 21 = .ok (.ifCond .ne 17, 3) := by decide +kernel
theorem dX8_roofsWithTunes_24 : decode cX8_roofsWithTunes 24 = .ok (.iload_n 1, 1) := by decide +kernel
theorem dX8_roofsWithTunes_25 : decode cX8_roofsWithTunes 25 = .ok (.iconst 1, 1) := by decide +kernel
theorem dX8_roofsWithTunes_26 : decode cX8_roofsWithTunes 26 = .ok (.aload_n 0, 1) := by decide +kernel
theorem dX8_roofsWithTunes_27 : decode cX8_roofsWithTunes 27 = .ok (.getfield 38, 3) := by decide +kernel
theorem dX8_roofsWithTunes_30 : decode cX8_roofsWithTunes 30 = .ok (.iload_n 2, 1) := by decide +kernel
theorem dX8_roofsWithTunes_31 : decode cX8_roofsWithTunes 31 = .ok (.iconst 4, 1) := by decide +kernel
theorem dX8_roofsWithTunes_32 : decode cX8_roofsWithTunes 32 = .ok (.invokevirtual 42, 3) := by decide +kernel
theorem dX8_roofsWithTunes_35 : decode cX8_roofsWithTunes 35 = .ok (.ishl, 1) := by decide +kernel
theorem dX8_roofsWithTunes_36 : decode cX8_roofsWithTunes 36 = .ok (.ior, 1) := by decide +kernel
theorem dX8_roofsWithTunes_37 : decode cX8_roofsWithTunes 37 = .ok (.istore_n 1, 1) := by decide +kernel
theorem dX8_roofsWithTunes_38 : decode cX8_roofsWithTunes 38 = .ok (.iinc 2 1, 3) := by decide +kernel
theorem dX8_roofsWithTunes_41 : decode cX8_roofsWithTunes 41 = .ok (.goto (-37), 3) := by decide +kernel
theorem dX8_roofsWithTunes_44 : decode cX8_roofsWithTunes 44 = .ok (.iload_n 1, 1) := by decide +kernel
theorem dX8_roofsWithTunes_45 : decode cX8_roofsWithTunes 45 = .ok (.ireturn, 1) := by decide +kernel
theorem dX8_whistle_0 : decode cX8_whistle 0 = .ok (.aload_n 0, 1) := by decide +kernel
theorem dX8_whistle_1 : decode cX8_whistle 1 = .ok (.getfield 97, 3) := by decide +kernel
theorem dX8_whistle_4 : decode cX8_whistle 4 = .ok (.iload_n 1, 1) := by decide +kernel
theorem dX8_whistle_5 : decode cX8_whistle 5 = .ok (.iconst 2, 1) := by decide +kernel
theorem dX8_whistle_6 : decode cX8_whistle 6 = .ok (.invokevirtual 42, 3) := by decide +kernel
theorem dX8_whistle_9 : decode cX8_whistle 9 = .ok (.aload_n 0, 1) := by decide +kernel
theorem dX8_whistle_10 : decode cX8_whistle 10 = .ok (.iload_n 2, 1) := by decide +kernel
theorem dX8_whistle_11 : decode cX8_whistle 11 = .ok (.invokevirtual 100, 3) := by decide +kernel
theorem dX8_whistle_14 : decode cX8_whistle 14 = .ok (.imul, 1) := by decide +kernel
theorem dX8_whistle_15 : decode cX8_whistle 15 = .ok (.istore_n 3, 1) := by decide +kernel
theorem dX8_whistle_16 : decode cX8_whistle 16 = .ok (.aload_n 0, 1) := by decide +kernel
theorem dX8_whistle_17 : decode cX8_whistle 17 = .ok (.getfield 97, 3) := by decide +kernel
theorem dX8_whistle_20 : decode cX8_whistle 20 = .ok (.aload_n 0, 1) := by decide +kernel
theorem dX8_whistle_21 : decode cX8_whistle 21 = .ok (.getfield 38, 3) := by decide +kernel
theorem dX8_whistle_24 : decode cX8_whistle 24 = .ok (.iload_n 2, 1) := by decide +kernel
theorem dX8_whistle_25 : decode cX8_whistle 25 = .ok (.iconst 0, 1) := by decide +kernel
theorem dX8_whistle_26 : decode cX8_whistle 26 = .ok (.invokevirtual 42, 3) := by decide +kernel
theorem dX8_whistle_29 : decode cX8_whistle 29 = .ok (.iconst 3, 1) := by decide +kernel
theorem dX8_whistle_30 : decode cX8_whistle 30 = .ok (.iload_n 3, 1) := by decide +kernel
theorem dX8_whistle_31 : decode cX8_whistle 31 = .ok (.ineg, 1) := by decide +kernel
theorem dX8_whistle_32 : decode cX8_whistle 32 = .ok (.invokevirtual 69, 3) := by decide +kernel
theorem dX8_whistle_35 : decode cX8_whistle 35 = .ok (.aload_n 0, 1) := by decide +kernel
theorem dX8_whistle_36 : decode cX8_whistle 36 = .ok (.getfield 97, 3) := by decide +kernel
theorem dX8_whistle_39 : decode cX8_whistle 39 = .ok (.iload_n 1, 1) := by decide +kernel
theorem dX8_whistle_40 : decode cX8_whistle 40 = .ok (.iconst 3, 1) := by decide +kernel
theorem dX8_whistle_41 : decode cX8_whistle 41 = .ok (.iload_n 3, 1) := by decide +kernel
theorem dX8_whistle_42 : decode cX8_whistle 42 = .ok (.invokevirtual 69, 3) := by decide +kernel
theorem dX8_whistle_45 : decode cX8_whistle 45 = .ok (.aload_n 0, 1) := by decide +kernel
theorem dX8_whistle_46 : decode cX8_whistle 46 = .ok (.bipush 9, 2) := by decide +kernel
theorem dX8_whistle_48 : decode cX8_whistle 48 = .ok (.iload_n 3, 1) := by decide +kernel
theorem dX8_whistle_49 : decode cX8_whistle 49 = .ok (.invokevirtual 15, 3) := by decide +kernel
theorem dX8_whistle_52 : decode cX8_whistle 52 = .ok (.aload_n 0, 1) := by decide +kernel
theorem dX8_whistle_53 : decode cX8_whistle 53 = .ok (.iload_n 2, 1) := by decide +kernel
theorem dX8_whistle_54 : decode cX8_whistle 54 = .ok (.invokevirtual 103, 3) := by decide +kernel
theorem dX8_whistle_57 : decode cX8_whistle 57 = .ok (.istore 4, 2) := by decide +kernel
theorem dX8_whistle_59 : decode cX8_whistle 59 = .ok (.aload_n 0, 1) := by decide +kernel
theorem dX8_whistle_60 : decode cX8_whistle 60 = .ok (.getfield 106, 3) := by decide +kernel
theorem dX8_whistle_63 : decode cX8_whistle 63 = .ok (.getfield 110, 3) := by decide +kernel
theorem dX8_whistle_66 : decode cX8_whistle 66 = .ok (.iload_n 1, 1) := by decide +kernel
theorem dX8_whistle_67 : decode cX8_whistle 67 = .ok (.iload 4, 2) := by decide +kernel
theorem dX8_whistle_69 : decode cX8_whistle 69 = .ok (.invokevirtual 42, 3) := by decide +kernel
theorem dX8_whistle_72 : decode cX8_whistle 72 = .ok (.istore 5, 2) := by decide +kernel
theorem dX8_whistle_74 : decode cX8_whistle 74 = .ok (.aload_n 0, 1) := by decide +kernel
theorem dX8_whistle_75 : decode cX8_whistle 75 = .ok (.getfield 9, 3) := by decide +kernel
theorem dX8_whistle_78 : decode cX8_whistle 78 = .ok (.aload_n 0, 1) := by decide +kernel
theorem dX8_whistle_79 : decode cX8_whistle 79 = .ok (.iload_n 1, 1) := by decide +kernel
theorem dX8_whistle_80 : decode cX8_whistle 80 = .ok (.iload_n 2, 1) := by decide +kernel
theorem dX8_whistle_81 : decode cX8_whistle 81 = .ok (.invokestatic 115, 3) := by decide +kernel
theorem dX8_whistle_84 : decode cX8_whistle 84 = .ok (.iadd, 1) := by decide +kernel
theorem dX8_whistle_85 : decode cX8_whistle 85 = .ok (.istore 6, 2) := by decide +kernel
theorem dX8_whistle_87 : decode cX8_whistle 87 = .ok (.aload_n 0, 1) := by decide +kernel
theorem dX8_whistle_88 : decode cX8_whistle 88 = .ok (.getfield 97, 3) := by decide +kernel
theorem dX8_whistle_91 : decode cX8_whistle 91 = .ok (.iload_n 1, 1) := by decide +kernel
theorem dX8_whistle_92 : decode cX8_whistle 92 = .ok (.iconst 4, 1) := by decide +kernel
theorem dX8_whistle_93 : decode cX8_whistle 93 = .ok (.iload 6, 2) := by decide +kernel
theorem dX8_whistle_95 : decode cX8_whistle 95 = .ok (.invokevirtual 62, 3) := by decide +kernel
theorem dX8_whistle_98 : decode cX8_whistle 98 = .ok (.aload_n 0, 1) := by decide +kernel
theorem dX8_whistle_99 : decode cX8_whistle 99 = .ok (.getfield 97, 3) := by decide +kernel
theorem dX8_whistle_102 : decode cX8_whistle 102 = .ok (.iload_n 1, 1) := by decide +kernel
theorem dX8_whistle_103 : decode cX8_whistle 103 = .ok (.bipush 7, 2) := by decide +kernel
theorem dX8_whistle_105 : decode cX8_whistle 105 = .ok (.iconst 1, 1) := by decide +kernel
theorem dX8_whistle_106 : decode cX8_whistle 106 = .ok (.invokevirtual 69, 3) := by decide +kernel
theorem dX8_whistle_109 : decode cX8_whistle 109 = .ok (.aload_n 0, 1) := by decide +kernel
theorem dX8_whistle_110 : decode cX8_whistle 110 = .ok (.getfield 38, 3) := by decide +kernel
theorem dX8_whistle_113 : decode cX8_whistle 113 = .ok (.iload_n 2, 1) := by decide +kernel
theorem dX8_whistle_114 : decode cX8_whistle 114 = .ok (.iconst 3, 1) := by decide +kernel
theorem dX8_whistle_115 : decode cX8_whistle 115 = .ok (.iconst 1, 1) := by decide +kernel
theorem dX8_whistle_116 : decode cX8_whistle 116 = .ok (.invokevirtual 62, 3) := by decide +kernel
theorem dX8_whistle_119 : decode cX8_whistle 119 = .ok (.aload_n 0, 1) := by decide +kernel
theorem dX8_whistle_120 : decode cX8_whistle 120 = .ok (.getfield 38, 3) := by decide +kernel
theorem dX8_whistle_123 : decode cX8_whistle 123 = .ok (.iload_n 2, 1) := by decide +kernel
theorem dX8_whistle_124 : decode cX8_whistle 124 = .ok (.iconst 4, 1) := by decide +kernel
theorem dX8_whistle_125 : decode cX8_whistle 125 = .ok (.iload 4, 2) := by decide +kernel
theorem dX8_whistle_127 : decode cX8_whistle 127 = .ok (.invokevirtual 62, 3) := by decide +kernel
theorem dX8_whistle_130 : decode cX8_whistle 130 = .ok (.aload_n 0, 1) := by decide +kernel
theorem dX8_whistle_131 : decode cX8_whistle 131 = .ok (.getfield 38, 3) := by decide +kernel
theorem dX8_whistle_134 : decode cX8_whistle 134 = .ok (.iload_n 2, 1) := by decide +kernel
theorem dX8_whistle_135 : decode cX8_whistle 135 = .ok (.iconst 5, 1) := by decide +kernel
theorem dX8_whistle_136 : decode cX8_whistle 136 = .ok (.iload 6, 2) := by decide +kernel
theorem dX8_whistle_138 : decode cX8_whistle 138 = .ok (.iload 5, 2) := by decide +kernel
theorem dX8_whistle_140 : decode cX8_whistle 140 = .ok (.iadd, 1) := by decide +kernel
theorem dX8_whistle_141 : decode cX8_whistle 141 = .ok (.invokevirtual 62, 3) := by decide +kernel
theorem dX8_whistle_144 : decode cX8_whistle 144 = .ok (.aload_n 0, 1) := by decide +kernel
theorem dX8_whistle_145 : decode cX8_whistle 145 = .ok (.getfield 38, 3) := by decide +kernel
theorem dX8_whistle_148 : decode cX8_whistle 148 = .ok (.iload_n 2, 1) := by decide +kernel
theorem dX8_whistle_149 : decode cX8_whistle 149 = .ok (.bipush 12, 2) := by decide +kernel
theorem dX8_whistle_151 : decode cX8_whistle 151 = .ok (.iload 5, 2) := by decide +kernel
theorem dX8_whistle_153 : decode cX8_whistle 153 = .ok (.invokevirtual 62, 3) := by decide +kernel
theorem dX8_whistle_156 : decode cX8_whistle 156 = .ok (.aload_n 0, 1) := by decide +kernel
theorem dX8_whistle_157 : decode cX8_whistle 157 = .ok (.getfield 38, 3) := by decide +kernel
theorem dX8_whistle_160 : decode cX8_whistle 160 = .ok (.iload_n 2, 1) := by decide +kernel
theorem dX8_whistle_161 : decode cX8_whistle 161 = .ok (.bipush 11, 2) := by decide +kernel
theorem dX8_whistle_163 : decode cX8_whistle 163 = .ok (.iconst 1, 1) := by decide +kernel
theorem dX8_whistle_164 : decode cX8_whistle 164 = .ok (.invokevirtual 69, 3) := by decide +kernel
theorem dX8_whistle_167 : decode cX8_whistle 167 = .ok (.aload_n 0, 1) := by decide +kernel
theorem dX8_whistle_168 : decode cX8_whistle 168 = .ok (.iconst 3, 1) := by decide +kernel
theorem dX8_whistle_169 : decode cX8_whistle 169 = .ok (.iconst 1, 1) := by decide +kernel
theorem dX8_whistle_170 : decode cX8_whistle 170 = .ok (.invokevirtual 15, 3) := by decide +kernel
theorem dX8_whistle_173 : decode cX8_whistle 173 = .ok (.return_, 1) := by decide +kernel
theorem dX8_breathsFor_0 : decode cX8_breathsFor 0 = .ok (.iconst 1, 1) := by decide +kernel
theorem dX8_breathsFor_1 : decode cX8_breathsFor 1 = .ok (.aload_n 0, 1) := by decide +kernel
theorem dX8_breathsFor_2 : decode cX8_breathsFor 2 = .ok (.getfield 97, 3) := by decide +kernel
theorem dX8_breathsFor_5 : decode cX8_breathsFor 5 = .ok (.iload_n 1, 1) := by decide +kernel
theorem dX8_breathsFor_6 : decode cX8_breathsFor 6 = .ok (.iconst 0, 1) := by decide +kernel
theorem dX8_breathsFor_7 : decode cX8_breathsFor 7 = .ok (.invokevirtual 42, 3) := by decide +kernel
theorem dX8_breathsFor_10 : decode cX8_breathsFor 10 = .ok (.invokestatic 119, 3) := by decide +kernel
theorem dX8_breathsFor_13 : decode cX8_breathsFor 13 = .ok (.istore_n 3, 1) := by decide +kernel
theorem dX8_breathsFor_14 : decode cX8_breathsFor 14 = .ok (.aload_n 0, 1) := by decide +kernel
theorem dX8_breathsFor_15 : decode cX8_breathsFor 15 = .ok (.getfield 38, 3) := by decide +kernel
theorem dX8_breathsFor_18 : decode cX8_breathsFor 18 = .ok (.iload_n 2, 1) := by decide +kernel
theorem dX8_breathsFor_19 : decode cX8_breathsFor 19 = .ok (.iconst 2, 1) := by decide +kernel
theorem dX8_breathsFor_20 : decode cX8_breathsFor 20 = .ok (.invokevirtual 42, 3) := by decide +kernel
theorem dX8_breathsFor_23 : decode cX8_breathsFor 23 = .ok (.iload_n 3, 1) := by decide +kernel
theorem dX8_breathsFor_24 : decode cX8_breathsFor 24 = .ok (.iadd, 1) := by decide +kernel
theorem dX8_breathsFor_25 : decode cX8_breathsFor 25 = .ok (.iconst 1, 1) := by decide +kernel
theorem dX8_breathsFor_26 : decode cX8_breathsFor 26 = .ok (.isub, 1) := by decide +kernel
theorem dX8_breathsFor_27 : decode cX8_breathsFor 27 = .ok (.iload_n 3, 1) := by decide +kernel
theorem dX8_breathsFor_28 : decode cX8_breathsFor 28 = .ok (.idiv, 1) := by decide +kernel
theorem dX8_breathsFor_29 : decode cX8_breathsFor 29 = .ok (.ireturn, 1) := by decide +kernel
theorem dX8_loseAll_0 : decode cX8_loseAll 0 = .ok (.iconst 0, 1) := by decide +kernel
theorem dX8_loseAll_1 : decode cX8_loseAll 1 = .ok (.istore_n 1, 1) := by decide +kernel
theorem dX8_loseAll_2 : decode cX8_loseAll 2 = .ok (.iload_n 1, 1) := by decide +kernel
theorem dX8_loseAll_3 : decode cX8_loseAll 3 = .ok (.aload_n 0, 1) := by decide +kernel
theorem dX8_loseAll_4 : decode cX8_loseAll 4 = .ok (.getfield 35, 3) := by decide +kernel
theorem dX8_loseAll_7 : decode cX8_loseAll 7 = .ok (.if_icmp .ge 47, 3) := by decide +kernel
theorem dX8_loseAll_10 : decode cX8_loseAll 10 = .ok (.aload_n 0, 1) := by decide +kernel
theorem dX8_loseAll_11 : decode cX8_loseAll 11 = .ok (.getfield 38, 3) := by decide +kernel
theorem dX8_loseAll_14 : decode cX8_loseAll 14 = .ok (.iload_n 1, 1) := by decide +kernel
theorem dX8_loseAll_15 : decode cX8_loseAll 15 = .ok (.iconst 3, 1) := by decide +kernel
theorem dX8_loseAll_16 : decode cX8_loseAll 16 = .ok (.invokevirtual 42, 3) := by decide +kernel
theorem dX8_loseAll_19 : decode cX8_loseAll 19 = .ok (.ifCond .ne 29, 3) := by decide +kernel
theorem dX8_loseAll_22 : decode cX8_loseAll 22 = .ok (.aload_n 0, 1) := by decide +kernel
theorem dX8_loseAll_23 : decode cX8_loseAll 23 = .ok (.iload_n 1, 1) := by decide +kernel
theorem dX8_loseAll_24 : decode cX8_loseAll 24 = .ok (.invokevirtual 103, 3) := by decide +kernel
theorem dX8_loseAll_27 : decode cX8_loseAll 27 = .ok (.iconst (-1), 1) := by decide +kernel
theorem dX8_loseAll_28 : decode cX8_loseAll 28 = .ok (.if_icmp .ne 20, 3) := by decide +kernel
theorem dX8_loseAll_31 : decode cX8_loseAll 31 = .ok (.aload_n 0, 1) := by decide +kernel
theorem dX8_loseAll_32 : decode cX8_loseAll 32 = .ok (.getfield 38, 3) := by decide +kernel
theorem dX8_loseAll_35 : decode cX8_loseAll 35 = .ok (.iload_n 1, 1) := by decide +kernel
theorem dX8_loseAll_36 : decode cX8_loseAll 36 = .ok (.iconst 3, 1) := by decide +kernel
theorem dX8_loseAll_37 : decode cX8_loseAll 37 = .ok (.iconst 3, 1) := by decide +kernel
theorem dX8_loseAll_38 : decode cX8_loseAll 38 = .ok (.invokevirtual 62, 3) := by decide +kernel
theorem dX8_loseAll_41 : decode cX8_loseAll 41 = .ok (.aload_n 0, 1) := by decide +kernel
theorem dX8_loseAll_42 : decode cX8_loseAll 42 = .ok (.bipush 8, 2) := by decide +kernel
theorem dX8_loseAll_44 : decode cX8_loseAll 44 = .ok (.iconst 1, 1) := by decide +kernel
theorem dX8_loseAll_45 : decode cX8_loseAll 45 = .ok (.invokevirtual 15, 3) := by decide +kernel
theorem dX8_loseAll_48 : decode cX8_loseAll 48 = .ok (.iinc 1 1, 3) := by decide +kernel
theorem dX8_loseAll_51 : decode cX8_loseAll 51 = .ok (.goto (-49), 3) := by decide +kernel
theorem dX8_loseAll_54 : decode cX8_loseAll 54 = .ok (.return_, 1) := by decide +kernel
theorem dX9_init_0 : decode cX9_init 0 = .ok (.aload_n 0, 1) := by decide +kernel
theorem dX9_init_1 : decode cX9_init 1 = .ok (.invokespecial 3, 3) := by decide +kernel
theorem dX9_init_4 : decode cX9_init 4 = .ok (.aload_n 0, 1) := by decide +kernel
theorem dX9_init_5 : decode cX9_init 5 = .ok (.aload_n 1, 1) := by decide +kernel
theorem dX9_init_6 : decode cX9_init 6 = .ok (.putfield 9, 3) := by decide +kernel
theorem dX9_init_9 : decode cX9_init 9 = .ok (.aload_n 0, 1) := by decide +kernel
theorem dX9_init_10 : decode cX9_init 10 = .ok (.iconst 0, 1) := by decide +kernel
theorem dX9_init_11 : decode cX9_init 11 = .ok (.putfield 15, 3) := by decide +kernel
theorem dX9_init_14 : decode cX9_init 14 = .ok (.aload_n 0, 1) := by decide +kernel
theorem dX9_init_15 : decode cX9_init 15 = .ok (.iconst (-1), 1) := by decide +kernel
theorem dX9_init_16 : decode cX9_init 16 = .ok (.putfield 19, 3) := by decide +kernel
theorem dX9_init_19 : decode cX9_init 19 = .ok (.return_, 1) := by decide +kernel
theorem dX9_open_0 : decode cX9_open 0 = .ok (.aload_n 0, 1) := by decide +kernel
theorem dX9_open_1 : decode cX9_open 1 = .ok (.iconst 0, 1) := by decide +kernel
theorem dX9_open_2 : decode cX9_open 2 = .ok (.putfield 15, 3) := by decide +kernel
theorem dX9_open_5 : decode cX9_open 5 = .ok (.aload_n 0, 1) := by decide +kernel
theorem dX9_open_6 : decode cX9_open 6 = .ok (.iconst (-1), 1) := by decide +kernel
theorem dX9_open_7 : decode cX9_open 7 = .ok (.putfield 19, 3) := by decide +kernel
theorem dX9_open_10 : decode cX9_open 10 = .ok (.aload_n 0, 1) := by decide +kernel
theorem dX9_open_11 : decode cX9_open 11 = .ok (.iconst 0, 1) := by decide +kernel
theorem dX9_open_12 : decode cX9_open 12 = .ok (.putfield 22, 3) := by decide +kernel
theorem dX9_open_15 : decode cX9_open 15 = .ok (.aload_n 0, 1) := by decide +kernel
theorem dX9_open_16 : decode cX9_open 16 = .ok (.invokevirtual 25, 3) := by decide +kernel
theorem dX9_open_19 : decode cX9_open 19 = .ok (.return_, 1) := by decide +kernel
theorem dX9_fail_0 : decode cX9_fail 0 = .ok (.aload_n 0, 1) := by decide +kernel
theorem dX9_fail_1 : decode cX9_fail 1 = .ok (.iload_n 1, 1) := by decide +kernel
theorem dX9_fail_2 : decode cX9_fail 2 = .ok (.putfield 15, 3) := by decide +kernel
theorem dX9_fail_5 : decode cX9_fail 5 = .ok (.aload_n 0, 1) := by decide +kernel
theorem dX9_fail_6 : decode cX9_fail 6 = .ok (.aload_n 0, 1) := by decide +kernel
theorem dX9_fail_7 : decode cX9_fail 7 = .ok (.getfield 28, 3) := by decide +kernel
theorem dX9_fail_10 : decode cX9_fail 10 = .ok (.putfield 19, 3) := by decide +kernel
theorem dX9_fail_13 : decode cX9_fail 13 = .ok (.iconst 0, 1) := by decide +kernel
theorem dX9_fail_14 : decode cX9_fail 14 = .ok (.ireturn, 1) := by decide +kernel
theorem dX9_kindOf_0 : decode cX9_kindOf 0 = .ok (.iload_n 0, 1) := by decide +kernel
theorem dX9_kindOf_1 : decode cX9_kindOf 1 = .ok (.bipush 97, 2) := by decide +kernel
theorem dX9_kindOf_3 : decode cX9_kindOf 3 = .ok (.if_icmp .lt 11, 3) := by decide +kernel
theorem dX9_kindOf_6 : decode cX9_kindOf 6 = .ok (.iload_n 0, 1) := by decide +kernel
theorem dX9_kindOf_7 : decode cX9_kindOf 7 = .ok (.bipush 122, 2) := by decide +kernel
theorem dX9_kindOf_9 : decode cX9_kindOf 9 = .ok (.if_icmp .gt 5, 3) := by decide +kernel
theorem dX9_kindOf_12 : decode cX9_kindOf 12 = .ok (.iconst 1, 1) := by decide +kernel
theorem dX9_kindOf_13 : decode cX9_kindOf 13 = .ok (.ireturn, 1) := by decide +kernel
theorem dX9_kindOf_14 : decode cX9_kindOf 14 = .ok (.iload_n 0, 1) := by decide +kernel
theorem dX9_kindOf_15 : decode cX9_kindOf 15 = .ok (.bipush 48, 2) := by decide +kernel
theorem dX9_kindOf_17 : decode cX9_kindOf 17 = .ok (.if_icmp .lt 11, 3) := by decide +kernel
theorem dX9_kindOf_20 : decode cX9_kindOf 20 = .ok (.iload_n 0, 1) := by decide +kernel
theorem dX9_kindOf_21 : decode cX9_kindOf 21 = .ok (.bipush 57, 2) := by decide +kernel
theorem dX9_kindOf_23 : decode cX9_kindOf 23 = .ok (.if_icmp .gt 5, 3) := by decide +kernel
theorem dX9_kindOf_26 : decode cX9_kindOf 26 = .ok (.iconst 2, 1) := by decide +kernel
theorem dX9_kindOf_27 : decode cX9_kindOf 27 = .ok (.ireturn, 1) := by decide +kernel
theorem dX9_kindOf_28 : decode cX9_kindOf 28 = .ok (.iload_n 0, 1) := by decide +kernel
theorem dX9_kindOf_29 : decode cX9_kindOf 29 = .ok (.lookupswitch 49 #[(-1, 47), (10, 45), (32, 45), (59, 43)], 43) := by decide +kernel
theorem dX9_kindOf_72 : decode cX9_kindOf 72 = .ok (.iconst 3, 1) := by decide +kernel
theorem dX9_kindOf_73 : decode cX9_kindOf 73 = .ok (.ireturn, 1) := by decide +kernel
theorem dX9_kindOf_74 : decode cX9_kindOf 74 = .ok (.iconst 5, 1) := by decide +kernel
theorem dX9_kindOf_75 : decode cX9_kindOf 75 = .ok (.ireturn, 1) := by decide +kernel
theorem dX9_kindOf_76 : decode cX9_kindOf 76 = .ok (.iconst 0, 1) := by decide +kernel
theorem dX9_kindOf_77 : decode cX9_kindOf 77 = .ok (.ireturn, 1) := by decide +kernel
theorem dX9_kindOf_78 : decode cX9_kindOf 78 = .ok (.iconst 4, 1) := by decide +kernel
theorem dX9_kindOf_79 : decode cX9_kindOf 79 = .ok (.ireturn, 1) := by decide +kernel
theorem dX9_step_0 : decode cX9_step 0 = .ok (.aload_n 0, 1) := by decide +kernel
theorem dX9_step_1 : decode cX9_step 1 = .ok (.aload_n 0, 1) := by decide +kernel
theorem dX9_step_2 : decode cX9_step 2 = .ok (.getfield 22, 3) := by decide +kernel
theorem dX9_step_5 : decode cX9_step 5 = .ok (.putfield 28, 3) := by decide +kernel
theorem dX9_step_8 : decode cX9_step 8 = .ok (.aload_n 0, 1) := by decide +kernel
theorem dX9_step_9 : decode cX9_step 9 = .ok (.getfield 28, 3) := by decide +kernel
theorem dX9_step_12 : decode cX9_step 12 = .ok (.aload_n 0, 1) := by decide +kernel
theorem dX9_step_13 : decode cX9_step 13 = .ok (.getfield 9, 3) := by decide +kernel
theorem dX9_step_16 : decode cX9_step 16 = .ok (.invokevirtual 31, 3) := by decide +kernel
theorem dX9_step_19 : decode cX9_step 19 = .ok (.if_icmp .ge 34, 3) := by decide +kernel
theorem dX9_step_22 : decode cX9_step 22 = .ok (.aload_n 0, 1) := by decide +kernel
theorem dX9_step_23 : decode cX9_step 23 = .ok (.getfield 9, 3) := by decide +kernel
theorem dX9_step_26 : decode cX9_step 26 = .ok (.aload_n 0, 1) := by decide +kernel
theorem dX9_step_27 : decode cX9_step 27 = .ok (.getfield 28, 3) := by decide +kernel
theorem dX9_step_30 : decode cX9_step 30 = .ok (.invokevirtual 37, 3) := by decide +kernel
theorem dX9_step_33 : decode cX9_step 33 = .ok (.invokestatic 41, 3) := by decide +kernel
theorem dX9_step_36 : decode cX9_step 36 = .ok (.iconst 5, 1) := by decide +kernel
theorem dX9_step_37 : decode cX9_step 37 = .ok (.if_icmp .ne 16, 3) := by decide +kernel
theorem dX9_step_40 : decode cX9_step 40 = .ok (.aload_n 0, 1) := by decide +kernel
theorem dX9_step_41 : decode cX9_step 41 = .ok (.dup, 1) := by decide +kernel
theorem dX9_step_42 : decode cX9_step 42 = .ok (.getfield 28, 3) := by decide +kernel
theorem dX9_step_45 : decode cX9_step 45 = .ok (.iconst 1, 1) := by decide +kernel
theorem dX9_step_46 : decode cX9_step 46 = .ok (.iadd, 1) := by decide +kernel
theorem dX9_step_47 : decode cX9_step 47 = .ok (.putfield 28, 3) := by decide +kernel
theorem dX9_step_50 : decode cX9_step 50 = .ok (.goto (-42), 3) := by decide +kernel
theorem dX9_step_53 : decode cX9_step 53 = .ok (.aload_n 0, 1) := by decide +kernel
theorem dX9_step_54 : decode cX9_step 54 = .ok (.aload_n 0, 1) := by decide +kernel
theorem dX9_step_55 : decode cX9_step 55 = .ok (.getfield 9, 3) := by decide +kernel
theorem dX9_step_58 : decode cX9_step 58 = .ok (.aload_n 0, 1) := by decide +kernel
theorem dX9_step_59 : decode cX9_step 59 = .ok (.getfield 28, 3) := by decide +kernel
theorem dX9_step_62 : decode cX9_step 62 = .ok (.invokevirtual 37, 3) := by decide +kernel
theorem dX9_step_65 : decode cX9_step 65 = .ok (.invokestatic 41, 3) := by decide +kernel
theorem dX9_step_68 : decode cX9_step 68 = .ok (.putfield 44, 3) := by decide +kernel
theorem dX9_step_71 : decode cX9_step 71 = .ok (.aload_n 0, 1) := by decide +kernel
theorem dX9_step_72 : decode cX9_step 72 = .ok (.aload_n 0, 1) := by decide +kernel
theorem dX9_step_73 : decode cX9_step 73 = .ok (.getfield 44, 3) := by decide +kernel
theorem dX9_step_76 : decode cX9_step 76 = .ok (.ifCond .ne 10, 3) := by decide +kernel
theorem dX9_step_79 : decode cX9_step 79 = .ok (.aload_n 0, 1) := by decide +kernel
theorem dX9_step_80 : decode cX9_step 80 = .ok (.getfield 28, 3) := by decide +kernel
theorem dX9_step_83 : decode cX9_step 83 = .ok (.goto 9, 3) := by decide +kernel
theorem dX9_step_86 : decode cX9_step 86 = .ok (.aload_n 0, 1) := by decide +kernel
theorem dX9_step_87 : decode cX9_step 87 = .ok (.getfield 28, 3) := by decide +kernel
theorem dX9_step_90 : decode cX9_step 90 = .ok (.iconst 1, 1) := by decide +kernel
theorem dX9_step_91 : decode cX9_step 91 = .ok (.iadd, 1) := by decide +kernel
theorem dX9_step_92 : decode cX9_step 92 = .ok (.putfield 22, 3) := by decide +kernel
theorem dX9_step_95 : decode cX9_step 95 = .ok (.aload_n 0, 1) := by decide +kernel
theorem dX9_step_96 : decode cX9_step 96 = .ok (.getfield 44, 3) := by decide +kernel
theorem dX9_step_99 : decode cX9_step 99 = .ok (.iconst 1, 1) := by decide +kernel
theorem dX9_step_100 : decode cX9_step 100 = .ok (.if_icmp .eq 11, 3) := by decide +kernel
theorem dX9_step_103 : decode cX9_step 103 = .ok (.aload_n 0, 1) := by decide +kernel
theorem dX9_step_104 : decode cX9_step 104 = .ok (.getfield 44, 3) := by decide +kernel
theorem dX9_step_107 : decode cX9_step 107 = .ok (.iconst 2, 1) := by decide +kernel
theorem dX9_step_108 : decode cX9_step 108 = .ok (.if_icmp .ne 7, 3) := by decide +kernel
theorem dX9_step_111 : decode cX9_step 111 = .ok (.iconst 1, 1) := by decide +kernel
theorem dX9_step_112 : decode cX9_step 112 = .ok (.goto 4, 3) := by decide +kernel
theorem dX9_step_115 : decode cX9_step 115 = .ok (.iconst 0, 1) := by decide +kernel
theorem dX9_step_116 : decode cX9_step 116 = .ok (.istore_n 1, 1) := by decide +kernel
theorem dX9_step_117 : decode cX9_step 117 = .ok (.iload_n 1, 1) := by decide +kernel
theorem dX9_step_118 : decode cX9_step 118 = .ok (.ifCond .eq 51, 3) := by decide +kernel
theorem dX9_step_121 : decode cX9_step 121 = .ok (.aload_n 0, 1) := by decide +kernel
theorem dX9_step_122 : decode cX9_step 122 = .ok (.getfield 22, 3) := by decide +kernel
theorem dX9_step_125 : decode cX9_step 125 = .ok (.aload_n 0, 1) := by decide +kernel
theorem dX9_step_126 : decode cX9_step 126 = .ok (.getfield 9, 3) := by decide +kernel
theorem dX9_step_129 : decode cX9_step 129 = .ok (.invokevirtual 31, 3) := by decide +kernel
theorem dX9_step_132 : decode cX9_step 132 = .ok (.if_icmp .ge 37, 3) := by decide +kernel
theorem dX9_step_135 : decode cX9_step 135 = .ok (.aload_n 0, 1) := by decide +kernel
theorem dX9_step_136 : decode cX9_step 136 = .ok (.getfield 9, 3) := by decide +kernel
theorem dX9_step_139 : decode cX9_step 139 = .ok (.aload_n 0, 1) := by decide +kernel
theorem dX9_step_140 : decode cX9_step 140 = .ok (.getfield 22, 3) := by decide +kernel
theorem dX9_step_143 : decode cX9_step 143 = .ok (.invokevirtual 37, 3) := by decide +kernel
theorem dX9_step_146 : decode cX9_step 146 = .ok (.invokestatic 41, 3) := by decide +kernel
theorem dX9_step_149 : decode cX9_step 149 = .ok (.aload_n 0, 1) := by decide +kernel
theorem dX9_step_150 : decode cX9_step 150 = .ok (.getfield 44, 3) := by decide +kernel
theorem dX9_step_153 : decode cX9_step 153 = .ok (.if_icmp .ne 16, 3) := by decide +kernel
theorem dX9_step_156 : decode cX9_step 156 = .ok (.aload_n 0, 1) := by decide +kernel
theorem dX9_step_157 : decode cX9_step 157 = .ok (.dup, 1) := by decide +kernel
theorem dX9_step_158 : decode cX9_step 158 = .ok (.getfield 22, 3) := by decide +kernel
theorem dX9_step_161 : decode cX9_step 161 = .ok (.iconst 1, 1) := by decide +kernel
theorem dX9_step_162 : decode cX9_step 162 = .ok (.iadd, 1) := by decide +kernel
theorem dX9_step_163 : decode cX9_step 163 = .ok (.putfield 22, 3) := by decide +kernel
theorem dX9_step_166 : decode cX9_step 166 = .ok (.goto (-49), 3) := by decide +kernel
theorem dX9_step_169 : decode cX9_step 169 = .ok (.iload_n 1, 1) := by decide +kernel
theorem dX9_step_170 : decode cX9_step 170 = .ok (.ifCond .eq 34, 3) := by decide +kernel
theorem dX9_step_173 : decode cX9_step 173 = .ok (.aload_n 0, 1) := by decide +kernel
theorem dX9_step_174 : decode cX9_step 174 = .ok (.getfield 22, 3) := by decide +kernel
theorem dX9_step_177 : decode cX9_step 177 = .ok (.aload_n 0, 1) := by decide +kernel
theorem dX9_step_178 : decode cX9_step 178 = .ok (.getfield 28, 3) := by decide +kernel
theorem dX9_step_181 : decode cX9_step 181 = .ok (.isub, 1) := by decide +kernel
theorem dX9_step_182 : decode cX9_step 182 = .ok (.aload_n 0, 1) := by decide +kernel
theorem dX9_step_183 : decode cX9_step 183 = .ok (.getfield 44, 3) := by decide +kernel
theorem dX9_step_186 : decode cX9_step 186 = .ok (.iconst 1, 1) := by decide +kernel
theorem dX9_step_187 : decode cX9_step 187 = .ok (.if_icmp .ne 8, 3) := by decide +kernel
theorem dX9_step_190 : decode cX9_step 190 = .ok (.bipush 8, 2) := by decide +kernel
theorem dX9_step_192 : decode cX9_step 192 = .ok (.goto 4, 3) := by decide +kernel
theorem dX9_step_195 : decode cX9_step 195 = .ok (.iconst 3, 1) := by decide +kernel
theorem dX9_step_196 : decode cX9_step 196 = .ok (.if_icmp .le 8, 3) := by decide +kernel
theorem dX9_step_199 : decode cX9_step 199 = .ok (.aload_n 0, 1) := by decide +kernel
theorem dX9_step_200 : decode cX9_step 200 = .ok (.iconst 4, 1) := by decide +kernel
theorem dX9_step_201 : decode cX9_step 201 = .ok (.putfield 44, 3) := by decide +kernel
theorem dX9_step_204 : decode cX9_step 204 = .ok (.aload_n 0, 1) := by decide +kernel
theorem dX9_step_205 : decode cX9_step 205 = .ok (.iconst 0, 1) := by decide +kernel
theorem dX9_step_206 : decode cX9_step 206 = .ok (.putfield 47, 3) := by decide +kernel
theorem dX9_step_209 : decode cX9_step 209 = .ok (.aload_n 0, 1) := by decide +kernel
theorem dX9_step_210 : decode cX9_step 210 = .ok (.getfield 28, 3) := by decide +kernel
theorem dX9_step_213 : decode cX9_step 213 = .ok (.istore_n 2, 1) := by decide +kernel
theorem dX9_step_214 : decode cX9_step 214 = .ok (.iload_n 2, 1) := by decide +kernel
theorem dX9_step_215 : decode cX9_step 215 = .ok (.aload_n 0, 1) := by decide +kernel
theorem dX9_step_216 : decode cX9_step 216 = .ok (.getfield 22, 3) := by decide +kernel
theorem dX9_step_219 : decode cX9_step 219 = .ok (.if_icmp .ge 40, 3) := by decide +kernel
theorem dX9_step_222 : decode cX9_step 222 = .ok (.aload_n 0, 1) := by decide +kernel
theorem dX9_step_223 : decode cX9_step 223 = .ok (.getfield 44, 3) := by decide +kernel
theorem dX9_step_226 : decode cX9_step 226 = .ok (.iconst 2, 1) := by decide +kernel
theorem dX9_step_227 : decode cX9_step 227 = .ok (.if_icmp .ne 32, 3) := by decide +kernel
theorem dX9_step_230 : decode cX9_step 230 = .ok (.aload_n 0, 1) := by decide +kernel
theorem dX9_step_231 : decode cX9_step 231 = .ok (.aload_n 0, 1) := by decide +kernel
theorem dX9_step_232 : decode cX9_step 232 = .ok (.getfield 47, 3) := by decide +kernel
theorem dX9_step_235 : decode cX9_step 235 = .ok (.bipush 10, 2) := by decide +kernel
theorem dX9_step_237 : decode cX9_step 237 = .ok (.imul, 1) := by decide +kernel
theorem dX9_step_238 : decode cX9_step 238 = .ok (.aload_n 0, 1) := by decide +kernel
theorem dX9_step_239 : decode cX9_step 239 = .ok (.getfield 9, 3) := by decide +kernel
theorem dX9_step_242 : decode cX9_step 242 = .ok (.iload_n 2, 1) := by decide +kernel
theorem dX9_step_243 : decode cX9_step 243 = .ok (.invokevirtual 37, 3) := by decide +kernel
theorem dX9_step_246 : decode cX9_step 246 = .ok (.iadd, 1) := by decide +kernel
theorem dX9_step_247 : decode cX9_step 247 = .ok (.bipush 48, 2) := by decide +kernel
theorem dX9_step_249 : decode cX9_step 249 = .ok (.isub, 1) := by decide +kernel
theorem dX9_step_250 : decode cX9_step 250 = .ok (.putfield 47, 3) := by decide +kernel
theorem dX9_step_253 : decode cX9_step 253 = .ok (.iinc 2 1, 3) := by decide +kernel
theorem dX9_step_256 : decode cX9_step 256 = .ok (.goto (-42), 3) := by decide +kernel
theorem dX9_step_259 : decode cX9_step 259 = .ok (.return_, 1) := by decide +kernel
theorem dX9_isWord_0 : decode cX9_isWord 0 = .ok (.aload_n 0, 1) := by decide +kernel
theorem dX9_isWord_1 : decode cX9_isWord 1 = .ok (.getfield 44, 3) := by decide +kernel
theorem dX9_isWord_4 : decode cX9_isWord 4 = .ok (.iconst 1, 1) := by decide +kernel
theorem dX9_isWord_5 : decode cX9_isWord 5 = .ok (.if_icmp .ne 19, 3) := by decide +kernel
theorem dX9_isWord_8 : decode cX9_isWord 8 = .ok (.aload_n 0, 1) := by decide +kernel
theorem dX9_isWord_9 : decode cX9_isWord 9 = .ok (.getfield 22, 3) := by decide +kernel
theorem dX9_isWord_12 : decode cX9_isWord 12 = .ok (.aload_n 0, 1) := by decide +kernel
theorem dX9_isWord_13 : decode cX9_isWord 13 = .ok (.getfield 28, 3) := by decide +kernel
theorem dX9_isWord_16 : decode cX9_isWord 16 = .ok (.isub, 1) := by decide +kernel
theorem dX9_isWord_17 : decode cX9_isWord 17 = .ok (.aload_n 1, 1) := by decide +kernel
theorem dX9_isWord_18 : decode cX9_isWord 18 = .ok (.invokevirtual 50, 3) := by decide +kernel
theorem dX9_isWord_21 : decode cX9_isWord 21 = .ok (.if_icmp .eq 5, 3) := by decide +kernel
theorem dX9_isWord_24 : decode cX9_isWord 24 = .ok (.iconst 0, 1) := by decide +kernel
theorem dX9_isWord_25 : decode cX9_isWord 25 = .ok (.ireturn, 1) := by decide +kernel
theorem dX9_isWord_26 : decode cX9_isWord 26 = .ok (.iconst 0, 1) := by decide +kernel
theorem dX9_isWord_27 : decode cX9_isWord 27 = .ok (.istore_n 2, 1) := by decide +kernel
theorem dX9_isWord_28 : decode cX9_isWord 28 = .ok (.iload_n 2, 1) := by decide +kernel
theorem dX9_isWord_29 : decode cX9_isWord 29 = .ok (.aload_n 1, 1) := by decide +kernel
theorem dX9_isWord_30 : decode cX9_isWord 30 = .ok (.invokevirtual 50, 3) := by decide +kernel
theorem dX9_isWord_33 : decode cX9_isWord 33 = .ok (.if_icmp .ge 32, 3) := by decide +kernel
theorem dX9_isWord_36 : decode cX9_isWord 36 = .ok (.aload_n 0, 1) := by decide +kernel
theorem dX9_isWord_37 : decode cX9_isWord 37 = .ok (.getfield 9, 3) := by decide +kernel
theorem dX9_isWord_40 : decode cX9_isWord 40 = .ok (.aload_n 0, 1) := by decide +kernel
theorem dX9_isWord_41 : decode cX9_isWord 41 = .ok (.getfield 28, 3) := by decide +kernel
theorem dX9_isWord_44 : decode cX9_isWord 44 = .ok (.iload_n 2, 1) := by decide +kernel
theorem dX9_isWord_45 : decode cX9_isWord 45 = .ok (.iadd, 1) := by decide +kernel
theorem dX9_isWord_46 : decode cX9_isWord 46 = .ok (.invokevirtual 37, 3) := by decide +kernel
theorem dX9_isWord_49 : decode cX9_isWord 49 = .ok (.aload_n 1, 1) := by decide +kernel
theorem dX9_isWord_50 : decode cX9_isWord 50 = .ok (.iload_n 2, 1) := by decide +kernel
theorem dX9_isWord_51 : decode cX9_isWord 51 = .ok (.invokevirtual 55, 3) := by decide +kernel
theorem dX9_isWord_54 : decode cX9_isWord 54 = .ok (.if_icmp .eq 5, 3) := by decide +kernel
theorem dX9_isWord_57 : decode cX9_isWord 57 = .ok (.iconst 0, 1) := by decide +kernel
theorem dX9_isWord_58 : decode cX9_isWord 58 = .ok (.ireturn, 1) := by decide +kernel
theorem dX9_isWord_59 : decode cX9_isWord 59 = .ok (.iinc 2 1, 3) := by decide +kernel
theorem dX9_isWord_62 : decode cX9_isWord 62 = .ok (.goto (-34), 3) := by decide +kernel
theorem dX9_isWord_65 : decode cX9_isWord 65 = .ok (.iconst 1, 1) := by decide +kernel
theorem dX9_isWord_66 : decode cX9_isWord 66 = .ok (.ireturn, 1) := by decide +kernel
theorem dX9_settingWord_0 : decode cX9_settingWord 0 = .ok (.aload_n 0, 1) := by decide +kernel
theorem dX9_settingWord_1 : decode cX9_settingWord 1 = .ok (.ldc 59, 2) := by decide +kernel
theorem dX9_settingWord_3 : decode cX9_settingWord 3 = .ok (.invokevirtual 61, 3) := by decide +kernel
theorem dX9_settingWord_6 : decode cX9_settingWord 6 = .ok (.ifCond .eq 6, 3) := by decide +kernel
theorem dX9_settingWord_9 : decode cX9_settingWord 9 = .ok (.bipush 8, 2) := by decide +kernel
theorem dX9_settingWord_11 : decode cX9_settingWord 11 = .ok (.ireturn, 1) := by decide +kernel
theorem dX9_settingWord_12 : decode cX9_settingWord 12 = .ok (.aload_n 0, 1) := by decide +kernel
theorem dX9_settingWord_13 : decode cX9_settingWord 13 = .ok (.ldc 65, 2) := by decide +kernel
theorem dX9_settingWord_15 : decode cX9_settingWord 15 = .ok (.invokevirtual 61, 3) := by decide +kernel
theorem dX9_settingWord_18 : decode cX9_settingWord 18 = .ok (.ifCond .eq 6, 3) := by decide +kernel
theorem dX9_settingWord_21 : decode cX9_settingWord 21 = .ok (.bipush 9, 2) := by decide +kernel
theorem dX9_settingWord_23 : decode cX9_settingWord 23 = .ok (.ireturn, 1) := by decide +kernel
theorem dX9_settingWord_24 : decode cX9_settingWord 24 = .ok (.aload_n 0, 1) := by decide +kernel
theorem dX9_settingWord_25 : decode cX9_settingWord 25 = .ok (.ldc 67, 2) := by decide +kernel
theorem dX9_settingWord_27 : decode cX9_settingWord 27 = .ok (.invokevirtual 61, 3) := by decide +kernel
theorem dX9_settingWord_30 : decode cX9_settingWord 30 = .ok (.ifCond .eq 8, 3) := by decide +kernel
theorem dX9_settingWord_33 : decode cX9_settingWord 33 = .ok (.bipush 10, 2) := by decide +kernel
theorem dX9_settingWord_35 : decode cX9_settingWord 35 = .ok (.goto 4, 3) := by decide +kernel
theorem dX9_settingWord_38 : decode cX9_settingWord 38 = .ok (.iconst (-1), 1) := by decide +kernel
theorem dX9_settingWord_39 : decode cX9_settingWord 39 = .ok (.ireturn, 1) := by decide +kernel
theorem dX9_nameHere_0 : decode cX9_nameHere 0 = .ok (.aload_n 0, 1) := by decide +kernel
theorem dX9_nameHere_1 : decode cX9_nameHere 1 = .ok (.getfield 44, 3) := by decide +kernel
theorem dX9_nameHere_4 : decode cX9_nameHere 4 = .ok (.iconst 1, 1) := by decide +kernel
theorem dX9_nameHere_5 : decode cX9_nameHere 5 = .ok (.if_icmp .ne 17, 3) := by decide +kernel
theorem dX9_nameHere_8 : decode cX9_nameHere 8 = .ok (.aload_n 0, 1) := by decide +kernel
theorem dX9_nameHere_9 : decode cX9_nameHere 9 = .ok (.getfield 22, 3) := by decide +kernel
theorem dX9_nameHere_12 : decode cX9_nameHere 12 = .ok (.aload_n 0, 1) := by decide +kernel
theorem dX9_nameHere_13 : decode cX9_nameHere 13 = .ok (.getfield 28, 3) := by decide +kernel
theorem dX9_nameHere_16 : decode cX9_nameHere 16 = .ok (.isub, 1) := by decide +kernel
theorem dX9_nameHere_17 : decode cX9_nameHere 17 = .ok (.bipush 6, 2) := by decide +kernel
theorem dX9_nameHere_19 : decode cX9_nameHere 19 = .ok (.if_icmp .le 11, 3) := by decide +kernel
theorem dX9_nameHere_22 : decode cX9_nameHere 22 = .ok (.aload_n 0, 1) := by decide +kernel
theorem dX9_nameHere_23 : decode cX9_nameHere 23 = .ok (.iconst 1, 1) := by decide +kernel
theorem dX9_nameHere_24 : decode cX9_nameHere 24 = .ok (.invokevirtual 69, 3) := by decide +kernel
theorem dX9_nameHere_27 : decode cX9_nameHere 27 = .ok (.pop, 1) := by decide +kernel
theorem dX9_nameHere_28 : decode cX9_nameHere 28 = .ok (.iconst (-1), 1) := by decide +kernel
theorem dX9_nameHere_29 : decode cX9_nameHere 29 = .ok (.ireturn, 1) := by decide +kernel
theorem dX9_nameHere_30 : decode cX9_nameHere 30 = .ok (.iconst 0, 1) := by decide +kernel
theorem dX9_nameHere_31 : decode cX9_nameHere 31 = .ok (.istore_n 1, 1) := by decide +kernel
theorem dX9_nameHere_32 : decode cX9_nameHere 32 = .ok (.aload_n 0, 1) := by decide +kernel
theorem dX9_nameHere_33 : decode cX9_nameHere 33 = .ok (.getfield 22, 3) := by decide +kernel
theorem dX9_nameHere_36 : decode cX9_nameHere 36 = .ok (.iconst 1, 1) := by decide +kernel
theorem dX9_nameHere_37 : decode cX9_nameHere 37 = .ok (.isub, 1) := by decide +kernel
theorem dX9_nameHere_38 : decode cX9_nameHere 38 = .ok (.istore_n 2, 1) := by decide +kernel
theorem dX9_nameHere_39 : decode cX9_nameHere 39 = .ok (.iload_n 2, 1) := by decide +kernel
theorem dX9_nameHere_40 : decode cX9_nameHere 40 = .ok (.aload_n 0, 1) := by decide +kernel
theorem dX9_nameHere_41 : decode cX9_nameHere 41 = .ok (.getfield 28, 3) := by decide +kernel
theorem dX9_nameHere_44 : decode cX9_nameHere 44 = .ok (.if_icmp .lt 27, 3) := by decide +kernel
theorem dX9_nameHere_47 : decode cX9_nameHere 47 = .ok (.iload_n 1, 1) := by decide +kernel
theorem dX9_nameHere_48 : decode cX9_nameHere 48 = .ok (.iconst 5, 1) := by decide +kernel
theorem dX9_nameHere_49 : decode cX9_nameHere 49 = .ok (.ishl, 1) := by decide +kernel
theorem dX9_nameHere_50 : decode cX9_nameHere 50 = .ok (.aload_n 0, 1) := by decide +kernel
theorem dX9_nameHere_51 : decode cX9_nameHere 51 = .ok (.getfield 9, 3) := by decide +kernel
theorem dX9_nameHere_54 : decode cX9_nameHere 54 = .ok (.iload_n 2, 1) := by decide +kernel
theorem dX9_nameHere_55 : decode cX9_nameHere 55 = .ok (.invokevirtual 37, 3) := by decide +kernel
theorem dX9_nameHere_58 : decode cX9_nameHere 58 = .ok (.bipush 97, 2) := by decide +kernel
theorem dX9_nameHere_60 : decode cX9_nameHere 60 = .ok (.isub, 1) := by decide +kernel
theorem dX9_nameHere_61 : decode cX9_nameHere 61 = .ok (.iconst 1, 1) := by decide +kernel
theorem dX9_nameHere_62 : decode cX9_nameHere 62 = .ok (.iadd, 1) := by decide +kernel
theorem dX9_nameHere_63 : decode cX9_nameHere 63 = .ok (.ior, 1) := by decide +kernel
theorem dX9_nameHere_64 : decode cX9_nameHere 64 = .ok (.istore_n 1, 1) := by decide +kernel
theorem dX9_nameHere_65 : decode cX9_nameHere 65 = .ok (.iinc 2 (-1), 3) := by decide +kernel
theorem dX9_nameHere_68 : decode cX9_nameHere 68 = .ok (.goto (-29), 3) := by decide +kernel
theorem dX9_nameHere_71 : decode cX9_nameHere 71 = .ok (.iload_n 1, 1) := by decide +kernel
theorem dX9_nameHere_72 : decode cX9_nameHere 72 = .ok (.ireturn, 1) := by decide +kernel
theorem dX9_roofHere_0 : decode cX9_roofHere 0 = .ok (.aload_n 0, 1) := by decide +kernel
theorem dX9_roofHere_1 : decode cX9_roofHere 1 = .ok (.invokevirtual 73, 3) := by decide +kernel
theorem dX9_roofHere_4 : decode cX9_roofHere 4 = .ok (.istore_n 3, 1) := by decide +kernel
theorem dX9_roofHere_5 : decode cX9_roofHere 5 = .ok (.iload_n 3, 1) := by decide +kernel
theorem dX9_roofHere_6 : decode cX9_roofHere 6 = .ok (.iconst (-1), 1) := by decide +kernel
theorem dX9_roofHere_7 : decode cX9_roofHere 7 = .ok (.if_icmp .ne 5, 3) := by decide +kernel
theorem dX9_roofHere_10 : decode cX9_roofHere 10 = .ok (.iconst (-1), 1) := by decide +kernel
theorem dX9_roofHere_11 : decode cX9_roofHere 11 = .ok (.ireturn, 1) := by decide +kernel
theorem dX9_roofHere_12 : decode cX9_roofHere 12 = .ok (.aload_n 1, 1) := by decide +kernel
theorem dX9_roofHere_13 : decode cX9_roofHere 13 = .ok (.iload_n 3, 1) := by decide +kernel
theorem dX9_roofHere_14 : decode cX9_roofHere 14 = .ok (.invokevirtual 76, 3) := by decide +kernel
theorem dX9_roofHere_17 : decode cX9_roofHere 17 = .ok (.istore 4, 2) := by decide +kernel
theorem dX9_roofHere_19 : decode cX9_roofHere 19 = .ok (.iload 4, 2) := by decide +kernel
theorem dX9_roofHere_21 : decode cX9_roofHere 21 = .ok (.iconst (-1), 1) := by decide +kernel
theorem dX9_roofHere_22 : decode cX9_roofHere 22 = .ok (.if_icmp .eq 9, 3) := by decide +kernel
theorem dX9_roofHere_25 : decode cX9_roofHere 25 = .ok (.iload 4, 2) := by decide +kernel
theorem dX9_roofHere_27 : decode cX9_roofHere 27 = .ok (.iload_n 2, 1) := by decide +kernel
theorem dX9_roofHere_28 : decode cX9_roofHere 28 = .ok (.if_icmp .ne 11, 3) := by decide +kernel
theorem dX9_roofHere_31 : decode cX9_roofHere 31 = .ok (.aload_n 0, 1) := by decide +kernel
theorem dX9_roofHere_32 : decode cX9_roofHere 32 = .ok (.iconst 3, 1) := by decide +kernel
theorem dX9_roofHere_33 : decode cX9_roofHere 33 = .ok (.invokevirtual 69, 3) := by decide +kernel
theorem dX9_roofHere_36 : decode cX9_roofHere 36 = .ok (.pop, 1) := by decide +kernel
theorem dX9_roofHere_37 : decode cX9_roofHere 37 = .ok (.iconst (-1), 1) := by decide +kernel
theorem dX9_roofHere_38 : decode cX9_roofHere 38 = .ok (.ireturn, 1) := by decide +kernel
theorem dX9_roofHere_39 : decode cX9_roofHere 39 = .ok (.iload 4, 2) := by decide +kernel
theorem dX9_roofHere_41 : decode cX9_roofHere 41 = .ok (.ireturn, 1) := by decide +kernel
theorem dX9_isNumberHere_0 : decode cX9_isNumberHere 0 = .ok (.aload_n 0, 1) := by decide +kernel
theorem dX9_isNumberHere_1 : decode cX9_isNumberHere 1 = .ok (.getfield 44, 3) := by decide +kernel
theorem dX9_isNumberHere_4 : decode cX9_isNumberHere 4 = .ok (.iconst 2, 1) := by decide +kernel
theorem dX9_isNumberHere_5 : decode cX9_isNumberHere 5 = .ok (.if_icmp .eq 9, 3) := by decide +kernel
theorem dX9_isNumberHere_8 : decode cX9_isNumberHere 8 = .ok (.aload_n 0, 1) := by decide +kernel
theorem dX9_isNumberHere_9 : decode cX9_isNumberHere 9 = .ok (.iconst 1, 1) := by decide +kernel
theorem dX9_isNumberHere_10 : decode cX9_isNumberHere 10 = .ok (.invokevirtual 69, 3) := by decide +kernel
theorem dX9_isNumberHere_13 : decode cX9_isNumberHere 13 = .ok (.ireturn, 1) := by decide +kernel
theorem dX9_isNumberHere_14 : decode cX9_isNumberHere 14 = .ok (.aload_n 0, 1) := by decide +kernel
theorem dX9_isNumberHere_15 : decode cX9_isNumberHere 15 = .ok (.getfield 47, 3) := by decide +kernel
theorem dX9_isNumberHere_18 : decode cX9_isNumberHere 18 = .ok (.iload_n 1, 1) := by decide +kernel
theorem dX9_isNumberHere_19 : decode cX9_isNumberHere 19 = .ok (.if_icmp .lt 11, 3) := by decide +kernel
theorem dX9_isNumberHere_22 : decode cX9_isNumberHere 22 = .ok (.aload_n 0, 1) := by decide +kernel
theorem dX9_isNumberHere_23 : decode cX9_isNumberHere 23 = .ok (.getfield 47, 3) := by decide +kernel
theorem dX9_isNumberHere_26 : decode cX9_isNumberHere 26 = .ok (.iload_n 2, 1) := by decide +kernel
theorem dX9_isNumberHere_27 : decode cX9_isNumberHere 27 = .ok (.if_icmp .le 11, 3) := by decide +kernel
theorem dX9_isNumberHere_30 : decode cX9_isNumberHere 30 = .ok (.aload_n 0, 1) := by decide +kernel
theorem dX9_isNumberHere_31 : decode cX9_isNumberHere 31 = .ok (.iconst 2, 1) := by decide +kernel
theorem dX9_isNumberHere_32 : decode cX9_isNumberHere 32 = .ok (.invokevirtual 69, 3) := by decide +kernel
theorem dX9_isNumberHere_35 : decode cX9_isNumberHere 35 = .ok (.ifCond .eq 7, 3) := by decide +kernel
theorem dX9_isNumberHere_38 : decode cX9_isNumberHere 38 = .ok (.iconst 1, 1) := by decide +kernel
theorem dX9_isNumberHere_39 : decode cX9_isNumberHere 39 = .ok (.goto 4, 3) := by decide +kernel
theorem dX9_isNumberHere_42 : decode cX9_isNumberHere 42 = .ok (.iconst 0, 1) := by decide +kernel
theorem dX9_isNumberHere_43 : decode cX9_isNumberHere 43 = .ok (.ireturn, 1) := by decide +kernel
theorem dX9_takeNumber_0 : decode cX9_takeNumber 0 = .ok (.aload_n 0, 1) := by decide +kernel
theorem dX9_takeNumber_1 : decode cX9_takeNumber 1 = .ok (.iload_n 1, 1) := by decide +kernel
theorem dX9_takeNumber_2 : decode cX9_takeNumber 2 = .ok (.iload_n 2, 1) := by decide +kernel
theorem dX9_takeNumber_3 : decode cX9_takeNumber 3 = .ok (.invokevirtual 81, 3) := by decide +kernel
theorem dX9_takeNumber_6 : decode cX9_takeNumber 6 = .ok (.ifCond .ne 5, 3) := by decide +kernel
theorem dX9_takeNumber_9 : decode cX9_takeNumber 9 = .ok (.iconst (-1), 1) := by decide +kernel
theorem dX9_takeNumber_10 : decode cX9_takeNumber 10 = .ok (.ireturn, 1) := by decide +kernel
theorem dX9_takeNumber_11 : decode cX9_takeNumber 11 = .ok (.aload_n 0, 1) := by decide +kernel
theorem dX9_takeNumber_12 : decode cX9_takeNumber 12 = .ok (.getfield 47, 3) := by decide +kernel
theorem dX9_takeNumber_15 : decode cX9_takeNumber 15 = .ok (.istore_n 3, 1) := by decide +kernel
theorem dX9_takeNumber_16 : decode cX9_takeNumber 16 = .ok (.aload_n 0, 1) := by decide +kernel
theorem dX9_takeNumber_17 : decode cX9_takeNumber 17 = .ok (.invokevirtual 25, 3) := by decide +kernel
theorem dX9_takeNumber_20 : decode cX9_takeNumber 20 = .ok (.iload_n 3, 1) := by decide +kernel
theorem dX9_takeNumber_21 : decode cX9_takeNumber 21 = .ok (.ireturn, 1) := by decide +kernel
theorem dX9_isSemicolonTaken_0 : decode cX9_isSemicolonTaken 0 = .ok (.aload_n 0, 1) := by decide +kernel
theorem dX9_isSemicolonTaken_1 : decode cX9_isSemicolonTaken 1 = .ok (.getfield 44, 3) := by decide +kernel
theorem dX9_isSemicolonTaken_4 : decode cX9_isSemicolonTaken 4 = .ok (.iconst 3, 1) := by decide +kernel
theorem dX9_isSemicolonTaken_5 : decode cX9_isSemicolonTaken 5 = .ok (.if_icmp .eq 9, 3) := by decide +kernel
theorem dX9_isSemicolonTaken_8 : decode cX9_isSemicolonTaken 8 = .ok (.aload_n 0, 1) := by decide +kernel
theorem dX9_isSemicolonTaken_9 : decode cX9_isSemicolonTaken 9 = .ok (.iconst 1, 1) := by decide +kernel
theorem dX9_isSemicolonTaken_10 : decode cX9_isSemicolonTaken 10 = .ok (.invokevirtual 69, 3) := by decide +kernel
theorem dX9_isSemicolonTaken_13 : decode cX9_isSemicolonTaken 13 = .ok (.ireturn, 1) := by decide +kernel
theorem dX9_isSemicolonTaken_14 : decode cX9_isSemicolonTaken 14 = .ok (.aload_n 0, 1) := by decide +kernel
theorem dX9_isSemicolonTaken_15 : decode cX9_isSemicolonTaken 15 = .ok (.invokevirtual 25, 3) := by decide +kernel
theorem dX9_isSemicolonTaken_18 : decode cX9_isSemicolonTaken 18 = .ok (.iconst 1, 1) := by decide +kernel
theorem dX9_isSemicolonTaken_19 : decode cX9_isSemicolonTaken 19 = .ok (.ireturn, 1) := by decide +kernel
theorem dX10_init_0 : decode cX10_init 0 = .ok (.aload_n 0, 1) := by decide +kernel
theorem dX10_init_1 : decode cX10_init 1 = .ok (.invokespecial 1, 3) := by decide +kernel
theorem dX10_init_4 : decode cX10_init 4 = .ok (.aload_n 0, 1) := by decide +kernel
theorem dX10_init_5 : decode cX10_init 5 = .ok (.new 7, 3) := by decide +kernel
theorem dX10_init_8 : decode cX10_init 8 = .ok (.dup, 1) := by decide +kernel
theorem dX10_init_9 : decode cX10_init 9 = .ok (.sipush 800, 3) := by decide +kernel
theorem dX10_init_12 : decode cX10_init 12 = .ok (.invokespecial 11, 3) := by decide +kernel
theorem dX10_init_15 : decode cX10_init 15 = .ok (.putfield 14, 3) := by decide +kernel
theorem dX10_init_18 : decode cX10_init 18 = .ok (.aload_n 0, 1) := by decide +kernel
theorem dX10_init_19 : decode cX10_init 19 = .ok (.new 7, 3) := by decide +kernel
theorem dX10_init_22 : decode cX10_init 22 = .ok (.dup, 1) := by decide +kernel
theorem dX10_init_23 : decode cX10_init 23 = .ok (.sipush 400, 3) := by decide +kernel
theorem dX10_init_26 : decode cX10_init 26 = .ok (.invokespecial 11, 3) := by decide +kernel
theorem dX10_init_29 : decode cX10_init 29 = .ok (.putfield 18, 3) := by decide +kernel
theorem dX10_init_32 : decode cX10_init 32 = .ok (.aload_n 0, 1) := by decide +kernel
theorem dX10_init_33 : decode cX10_init 33 = .ok (.new 21, 3) := by decide +kernel
theorem dX10_init_36 : decode cX10_init 36 = .ok (.dup, 1) := by decide +kernel
theorem dX10_init_37 : decode cX10_init 37 = .ok (.invokespecial 23, 3) := by decide +kernel
theorem dX10_init_40 : decode cX10_init 40 = .ok (.putfield 24, 3) := by decide +kernel
theorem dX10_init_43 : decode cX10_init 43 = .ok (.aload_n 0, 1) := by decide +kernel
theorem dX10_init_44 : decode cX10_init 44 = .ok (.new 21, 3) := by decide +kernel
theorem dX10_init_47 : decode cX10_init 47 = .ok (.dup, 1) := by decide +kernel
theorem dX10_init_48 : decode cX10_init 48 = .ok (.invokespecial 23, 3) := by decide +kernel
theorem dX10_init_51 : decode cX10_init 51 = .ok (.putfield 28, 3) := by decide +kernel
theorem dX10_init_54 : decode cX10_init 54 = .ok (.aload_n 0, 1) := by decide +kernel
theorem dX10_init_55 : decode cX10_init 55 = .ok (.new 21, 3) := by decide +kernel
theorem dX10_init_58 : decode cX10_init 58 = .ok (.dup, 1) := by decide +kernel
theorem dX10_init_59 : decode cX10_init 59 = .ok (.invokespecial 23, 3) := by decide +kernel
theorem dX10_init_62 : decode cX10_init 62 = .ok (.putfield 31, 3) := by decide +kernel
theorem dX10_init_65 : decode cX10_init 65 = .ok (.aload_n 0, 1) := by decide +kernel
theorem dX10_init_66 : decode cX10_init 66 = .ok (.new 34, 3) := by decide +kernel
theorem dX10_init_69 : decode cX10_init 69 = .ok (.dup, 1) := by decide +kernel
theorem dX10_init_70 : decode cX10_init 70 = .ok (.invokespecial 36, 3) := by decide +kernel
theorem dX10_init_73 : decode cX10_init 73 = .ok (.putfield 37, 3) := by decide +kernel
theorem dX10_init_76 : decode cX10_init 76 = .ok (.aload_n 0, 1) := by decide +kernel
theorem dX10_init_77 : decode cX10_init 77 = .ok (.new 41, 3) := by decide +kernel
theorem dX10_init_80 : decode cX10_init 80 = .ok (.dup, 1) := by decide +kernel
theorem dX10_init_81 : decode cX10_init 81 = .ok (.aload_n 0, 1) := by decide +kernel
theorem dX10_init_82 : decode cX10_init 82 = .ok (.getfield 14, 3) := by decide +kernel
theorem dX10_init_85 : decode cX10_init 85 = .ok (.invokespecial 43, 3) := by decide +kernel
theorem dX10_init_88 : decode cX10_init 88 = .ok (.putfield 46, 3) := by decide +kernel
theorem dX10_init_91 : decode cX10_init 91 = .ok (.aload_n 0, 1) := by decide +kernel
theorem dX10_init_92 : decode cX10_init 92 = .ok (.new 50, 3) := by decide +kernel
theorem dX10_init_95 : decode cX10_init 95 = .ok (.dup, 1) := by decide +kernel
theorem dX10_init_96 : decode cX10_init 96 = .ok (.aload_n 0, 1) := by decide +kernel
theorem dX10_init_97 : decode cX10_init 97 = .ok (.getfield 46, 3) := by decide +kernel
theorem dX10_init_100 : decode cX10_init 100 = .ok (.aload_n 0, 1) := by decide +kernel
theorem dX10_init_101 : decode cX10_init 101 = .ok (.getfield 31, 3) := by decide +kernel
theorem dX10_init_104 : decode cX10_init 104 = .ok (.invokespecial 52, 3) := by decide +kernel
theorem dX10_init_107 : decode cX10_init 107 = .ok (.putfield 55, 3) := by decide +kernel
theorem dX10_init_110 : decode cX10_init 110 = .ok (.aload_n 0, 1) := by decide +kernel
theorem dX10_init_111 : decode cX10_init 111 = .ok (.new 59, 3) := by decide +kernel
theorem dX10_init_114 : decode cX10_init 114 = .ok (.dup, 1) := by decide +kernel
theorem dX10_init_115 : decode cX10_init 115 = .ok (.aload_n 0, 1) := by decide +kernel
theorem dX10_init_116 : decode cX10_init 116 = .ok (.getfield 46, 3) := by decide +kernel
theorem dX10_init_119 : decode cX10_init 119 = .ok (.aload_n 0, 1) := by decide +kernel
theorem dX10_init_120 : decode cX10_init 120 = .ok (.getfield 24, 3) := by decide +kernel
theorem dX10_init_123 : decode cX10_init 123 = .ok (.invokespecial 61, 3) := by decide +kernel
theorem dX10_init_126 : decode cX10_init 126 = .ok (.putfield 62, 3) := by decide +kernel
theorem dX10_init_129 : decode cX10_init 129 = .ok (.aload_n 0, 1) := by decide +kernel
theorem dX10_init_130 : decode cX10_init 130 = .ok (.iconst 0, 1) := by decide +kernel
theorem dX10_init_131 : decode cX10_init 131 = .ok (.putfield 66, 3) := by decide +kernel
theorem dX10_init_134 : decode cX10_init 134 = .ok (.aload_n 0, 1) := by decide +kernel
theorem dX10_init_135 : decode cX10_init 135 = .ok (.getfield 14, 3) := by decide +kernel
theorem dX10_init_138 : decode cX10_init 138 = .ok (.ldc 70, 2) := by decide +kernel
theorem dX10_init_140 : decode cX10_init 140 = .ok (.invokevirtual 72, 3) := by decide +kernel
theorem dX10_init_143 : decode cX10_init 143 = .ok (.aload_n 0, 1) := by decide +kernel
theorem dX10_init_144 : decode cX10_init 144 = .ok (.getfield 55, 3) := by decide +kernel
theorem dX10_init_147 : decode cX10_init 147 = .ok (.invokevirtual 76, 3) := by decide +kernel
theorem dX10_init_150 : decode cX10_init 150 = .ok (.ifCond .eq 14, 3) := by decide +kernel
theorem dX10_init_153 : decode cX10_init 153 = .ok (.aload_n 0, 1) := by decide +kernel
theorem dX10_init_154 : decode cX10_init 154 = .ok (.getfield 24, 3) := by decide +kernel
theorem dX10_init_157 : decode cX10_init 157 = .ok (.aload_n 0, 1) := by decide +kernel
theorem dX10_init_158 : decode cX10_init 158 = .ok (.getfield 31, 3) := by decide +kernel
theorem dX10_init_161 : decode cX10_init 161 = .ok (.invokevirtual 80, 3) := by decide +kernel
theorem dX10_init_164 : decode cX10_init 164 = .ok (.aload_n 0, 1) := by decide +kernel
theorem dX10_init_165 : decode cX10_init 165 = .ok (.getfield 14, 3) := by decide +kernel
theorem dX10_init_168 : decode cX10_init 168 = .ok (.invokevirtual 84, 3) := by decide +kernel
theorem dX10_init_171 : decode cX10_init 171 = .ok (.return_, 1) := by decide +kernel
theorem dX10_appendInput_0 : decode cX10_appendInput 0 = .ok (.aload_n 0, 1) := by decide +kernel
theorem dX10_appendInput_1 : decode cX10_appendInput 1 = .ok (.getfield 14, 3) := by decide +kernel
theorem dX10_appendInput_4 : decode cX10_appendInput 4 = .ok (.invokevirtual 87, 3) := by decide +kernel
theorem dX10_appendInput_7 : decode cX10_appendInput 7 = .ok (.bipush 20, 2) := by decide +kernel
theorem dX10_appendInput_9 : decode cX10_appendInput 9 = .ok (.iadd, 1) := by decide +kernel
theorem dX10_appendInput_10 : decode cX10_appendInput 10 = .ok (.sipush 800, 3) := by decide +kernel
theorem dX10_appendInput_13 : decode cX10_appendInput 13 = .ok (.if_icmp .le 5, 3) := by decide +kernel
theorem dX10_appendInput_16 : decode cX10_appendInput 16 = .ok (.iconst (-1), 1) := by decide +kernel
theorem dX10_appendInput_17 : decode cX10_appendInput 17 = .ok (.ireturn, 1) := by decide +kernel
theorem dX10_appendInput_18 : decode cX10_appendInput 18 = .ok (.aload_n 0, 1) := by decide +kernel
theorem dX10_appendInput_19 : decode cX10_appendInput 19 = .ok (.iload_n 1, 1) := by decide +kernel
theorem dX10_appendInput_20 : decode cX10_appendInput 20 = .ok (.invokevirtual 91, 3) := by decide +kernel
theorem dX10_appendInput_23 : decode cX10_appendInput 23 = .ok (.aload_n 0, 1) := by decide +kernel
theorem dX10_appendInput_24 : decode cX10_appendInput 24 = .ok (.iload_n 2, 1) := by decide +kernel
theorem dX10_appendInput_25 : decode cX10_appendInput 25 = .ok (.invokevirtual 91, 3) := by decide +kernel
theorem dX10_appendInput_28 : decode cX10_appendInput 28 = .ok (.aload_n 0, 1) := by decide +kernel
theorem dX10_appendInput_29 : decode cX10_appendInput 29 = .ok (.iload_n 3, 1) := by decide +kernel
theorem dX10_appendInput_30 : decode cX10_appendInput 30 = .ok (.invokevirtual 91, 3) := by decide +kernel
theorem dX10_appendInput_33 : decode cX10_appendInput 33 = .ok (.aload_n 0, 1) := by decide +kernel
theorem dX10_appendInput_34 : decode cX10_appendInput 34 = .ok (.iload 4, 2) := by decide +kernel
theorem dX10_appendInput_36 : decode cX10_appendInput 36 = .ok (.invokevirtual 91, 3) := by decide +kernel
theorem dX10_appendInput_39 : decode cX10_appendInput 39 = .ok (.aload_n 0, 1) := by decide +kernel
theorem dX10_appendInput_40 : decode cX10_appendInput 40 = .ok (.iload 5, 2) := by decide +kernel
theorem dX10_appendInput_42 : decode cX10_appendInput 42 = .ok (.invokevirtual 91, 3) := by decide +kernel
theorem dX10_appendInput_45 : decode cX10_appendInput 45 = .ok (.aload_n 0, 1) := by decide +kernel
theorem dX10_appendInput_46 : decode cX10_appendInput 46 = .ok (.getfield 14, 3) := by decide +kernel
theorem dX10_appendInput_49 : decode cX10_appendInput 49 = .ok (.invokevirtual 87, 3) := by decide +kernel
theorem dX10_appendInput_52 : decode cX10_appendInput 52 = .ok (.ireturn, 1) := by decide +kernel
theorem dX10_appendFour_0 : decode cX10_appendFour 0 = .ok (.bipush 24, 2) := by decide +kernel
theorem dX10_appendFour_2 : decode cX10_appendFour 2 = .ok (.istore_n 2, 1) := by decide +kernel
theorem dX10_appendFour_3 : decode cX10_appendFour 3 = .ok (.iload_n 2, 1) := by decide +kernel
theorem dX10_appendFour_4 : decode cX10_appendFour 4 = .ok (.ifCond .lt 23, 3) := by decide +kernel
theorem dX10_appendFour_7 : decode cX10_appendFour 7 = .ok (.aload_n 0, 1) := by decide +kernel
theorem dX10_appendFour_8 : decode cX10_appendFour 8 = .ok (.getfield 14, 3) := by decide +kernel
theorem dX10_appendFour_11 : decode cX10_appendFour 11 = .ok (.iload_n 1, 1) := by decide +kernel
theorem dX10_appendFour_12 : decode cX10_appendFour 12 = .ok (.iload_n 2, 1) := by decide +kernel
theorem dX10_appendFour_13 : decode cX10_appendFour 13 = .ok (.iushr, 1) := by decide +kernel
theorem dX10_appendFour_14 : decode cX10_appendFour 14 = .ok (.sipush 255, 3) := by decide +kernel
theorem dX10_appendFour_17 : decode cX10_appendFour 17 = .ok (.iand, 1) := by decide +kernel
theorem dX10_appendFour_18 : decode cX10_appendFour 18 = .ok (.invokevirtual 94, 3) := by decide +kernel
theorem dX10_appendFour_21 : decode cX10_appendFour 21 = .ok (.iinc 2 (-8), 3) := by decide +kernel
theorem dX10_appendFour_24 : decode cX10_appendFour 24 = .ok (.goto (-21), 3) := by decide +kernel
theorem dX10_appendFour_27 : decode cX10_appendFour 27 = .ok (.return_, 1) := by decide +kernel
theorem dX10_truncateInput_0 : decode cX10_truncateInput 0 = .ok (.aload_n 0, 1) := by decide +kernel
theorem dX10_truncateInput_1 : decode cX10_truncateInput 1 = .ok (.getfield 14, 3) := by decide +kernel
theorem dX10_truncateInput_4 : decode cX10_truncateInput 4 = .ok (.iload_n 1, 1) := by decide +kernel
theorem dX10_truncateInput_5 : decode cX10_truncateInput 5 = .ok (.invokevirtual 97, 3) := by decide +kernel
theorem dX10_truncateInput_8 : decode cX10_truncateInput 8 = .ok (.ireturn, 1) := by decide +kernel
theorem dX10_loadPost_0 : decode cX10_loadPost 0 = .ok (.aload_n 0, 1) := by decide +kernel
theorem dX10_loadPost_1 : decode cX10_loadPost 1 = .ok (.getfield 55, 3) := by decide +kernel
theorem dX10_loadPost_4 : decode cX10_loadPost 4 = .ok (.invokevirtual 76, 3) := by decide +kernel
theorem dX10_loadPost_7 : decode cX10_loadPost 7 = .ok (.istore_n 1, 1) := by decide +kernel
theorem dX10_loadPost_8 : decode cX10_loadPost 8 = .ok (.aload_n 0, 1) := by decide +kernel
theorem dX10_loadPost_9 : decode cX10_loadPost 9 = .ok (.getfield 14, 3) := by decide +kernel
theorem dX10_loadPost_12 : decode cX10_loadPost 12 = .ok (.invokevirtual 84, 3) := by decide +kernel
theorem dX10_loadPost_15 : decode cX10_loadPost 15 = .ok (.iload_n 1, 1) := by decide +kernel
theorem dX10_loadPost_16 : decode cX10_loadPost 16 = .ok (.ifCond .ne 5, 3) := by decide +kernel
theorem dX10_loadPost_19 : decode cX10_loadPost 19 = .ok (.iconst (-1), 1) := by decide +kernel
theorem dX10_loadPost_20 : decode cX10_loadPost 20 = .ok (.ireturn, 1) := by decide +kernel
theorem dX10_loadPost_21 : decode cX10_loadPost 21 = .ok (.aload_n 0, 1) := by decide +kernel
theorem dX10_loadPost_22 : decode cX10_loadPost 22 = .ok (.getfield 24, 3) := by decide +kernel
theorem dX10_loadPost_25 : decode cX10_loadPost 25 = .ok (.aload_n 0, 1) := by decide +kernel
theorem dX10_loadPost_26 : decode cX10_loadPost 26 = .ok (.getfield 31, 3) := by decide +kernel
theorem dX10_loadPost_29 : decode cX10_loadPost 29 = .ok (.invokevirtual 80, 3) := by decide +kernel
theorem dX10_loadPost_32 : decode cX10_loadPost 32 = .ok (.aload_n 0, 1) := by decide +kernel
theorem dX10_loadPost_33 : decode cX10_loadPost 33 = .ok (.getfield 37, 3) := by decide +kernel
theorem dX10_loadPost_36 : decode cX10_loadPost 36 = .ok (.invokevirtual 101, 3) := by decide +kernel
