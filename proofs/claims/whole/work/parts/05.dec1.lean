theorem dX0_init_0 : decode cX0_init 0 = .ok (.aload_n 0, 1) := by decide +kernel
theorem dX0_init_1 : decode cX0_init 1 = .ok (.invokespecial 3, 3) := by decide +kernel
theorem dX0_init_4 : decode cX0_init 4 = .ok (.aload_n 0, 1) := by decide +kernel
theorem dX0_init_5 : decode cX0_init 5 = .ok (.iload_n 1, 1) := by decide +kernel
theorem dX0_init_6 : decode cX0_init 6 = .ok (.ifCond .le 14, 3) := by decide +kernel
theorem dX0_init_9 : decode cX0_init 9 = .ok (.iload_n 1, 1) := by decide +kernel
theorem dX0_init_10 : decode cX0_init 10 = .ok (.sipush 800, 3) := by decide +kernel
theorem dX0_init_13 : decode cX0_init 13 = .ok (.if_icmp .gt 7, 3) := by decide +kernel
theorem dX0_init_16 : decode cX0_init 16 = .ok (.iload_n 1, 1) := by decide +kernel
theorem dX0_init_17 : decode cX0_init 17 = .ok (.goto 4, 3) := by decide +kernel
theorem dX0_init_20 : decode cX0_init 20 = .ok (.iconst 0, 1) := by decide +kernel
theorem dX0_init_21 : decode cX0_init 21 = .ok (.newarray .int, 2) := by decide +kernel
theorem dX0_init_23 : decode cX0_init 23 = .ok (.putfield 9, 3) := by decide +kernel
theorem dX0_init_26 : decode cX0_init 26 = .ok (.aload_n 0, 1) := by decide +kernel
theorem dX0_init_27 : decode cX0_init 27 = .ok (.iconst 0, 1) := by decide +kernel
theorem dX0_init_28 : decode cX0_init 28 = .ok (.putfield 15, 3) := by decide +kernel
theorem dX0_init_31 : decode cX0_init 31 = .ok (.return_, 1) := by decide +kernel
theorem dX0_size_0 : decode cX0_size 0 = .ok (.aload_n 0, 1) := by decide +kernel
theorem dX0_size_1 : decode cX0_size 1 = .ok (.getfield 15, 3) := by decide +kernel
theorem dX0_size_4 : decode cX0_size 4 = .ok (.ireturn, 1) := by decide +kernel
theorem dX0_get_0 : decode cX0_get 0 = .ok (.iload_n 1, 1) := by decide +kernel
theorem dX0_get_1 : decode cX0_get 1 = .ok (.ifCond .lt 29, 3) := by decide +kernel
theorem dX0_get_4 : decode cX0_get 4 = .ok (.iload_n 1, 1) := by decide +kernel
theorem dX0_get_5 : decode cX0_get 5 = .ok (.aload_n 0, 1) := by decide +kernel
theorem dX0_get_6 : decode cX0_get 6 = .ok (.getfield 15, 3) := by decide +kernel
theorem dX0_get_9 : decode cX0_get 9 = .ok (.if_icmp .ge 21, 3) := by decide +kernel
theorem dX0_get_12 : decode cX0_get 12 = .ok (.iload_n 1, 1) := by decide +kernel
theorem dX0_get_13 : decode cX0_get 13 = .ok (.aload_n 0, 1) := by decide +kernel
theorem dX0_get_14 : decode cX0_get 14 = .ok (.getfield 9, 3) := by decide +kernel
theorem dX0_get_17 : decode cX0_get 17 = .ok (.arraylength, 1) := by decide +kernel
theorem dX0_get_18 : decode cX0_get 18 = .ok (.if_icmp .ge 12, 3) := by decide +kernel
theorem dX0_get_21 : decode cX0_get 21 = .ok (.aload_n 0, 1) := by decide +kernel
theorem dX0_get_22 : decode cX0_get 22 = .ok (.getfield 9, 3) := by decide +kernel
theorem dX0_get_25 : decode cX0_get 25 = .ok (.iload_n 1, 1) := by decide +kernel
theorem dX0_get_26 : decode cX0_get 26 = .ok (.iaload, 1) := by decide +kernel
theorem dX0_get_27 : decode cX0_get 27 = .ok (.goto 4, 3) := by decide +kernel
theorem dX0_get_30 : decode cX0_get 30 = .ok (.iconst (-1), 1) := by decide +kernel
theorem dX0_get_31 : decode cX0_get 31 = .ok (.ireturn, 1) := by decide +kernel
theorem dX0_add_0 : decode cX0_add 0 = .ok (.aload_n 0, 1) := by decide +kernel
theorem dX0_add_1 : decode cX0_add 1 = .ok (.getfield 15, 3) := by decide +kernel
theorem dX0_add_4 : decode cX0_add 4 = .ok (.ifCond .lt 35, 3) := by decide +kernel
theorem dX0_add_7 : decode cX0_add 7 = .ok (.aload_n 0, 1) := by decide +kernel
theorem dX0_add_8 : decode cX0_add 8 = .ok (.getfield 15, 3) := by decide +kernel
theorem dX0_add_11 : decode cX0_add 11 = .ok (.aload_n 0, 1) := by decide +kernel
theorem dX0_add_12 : decode cX0_add 12 = .ok (.getfield 9, 3) := by decide +kernel
theorem dX0_add_15 : decode cX0_add 15 = .ok (.arraylength, 1) := by decide +kernel
theorem dX0_add_16 : decode cX0_add 16 = .ok (.if_icmp .ge 23, 3) := by decide +kernel
theorem dX0_add_19 : decode cX0_add 19 = .ok (.aload_n 0, 1) := by decide +kernel
theorem dX0_add_20 : decode cX0_add 20 = .ok (.getfield 9, 3) := by decide +kernel
theorem dX0_add_23 : decode cX0_add 23 = .ok (.aload_n 0, 1) := by decide +kernel
theorem dX0_add_24 : decode cX0_add 24 = .ok (.getfield 15, 3) := by decide +kernel
theorem dX0_add_27 : decode cX0_add 27 = .ok (.iload_n 1, 1) := by decide +kernel
theorem dX0_add_28 : decode cX0_add 28 = .ok (.iastore, 1) := by decide +kernel
theorem dX0_add_29 : decode cX0_add 29 = .ok (.aload_n 0, 1) := by decide +kernel
theorem dX0_add_30 : decode cX0_add 30 = .ok (.dup, 1) := by decide +kernel
theorem dX0_add_31 : decode cX0_add 31 = .ok (.getfield 15, 3) := by decide +kernel
theorem dX0_add_34 : decode cX0_add 34 = .ok (.iconst 1, 1) := by decide +kernel
theorem dX0_add_35 : decode cX0_add 35 = .ok (.iadd, 1) := by decide +kernel
theorem dX0_add_36 : decode cX0_add 36 = .ok (.putfield 15, 3) := by decide +kernel
theorem dX0_add_39 : decode cX0_add 39 = .ok (.return_, 1) := by decide +kernel
theorem dX0_addText_0 : decode cX0_addText 0 = .ok (.iconst 0, 1) := by decide +kernel
theorem dX0_addText_1 : decode cX0_addText 1 = .ok (.istore_n 2, 1) := by decide +kernel
theorem dX0_addText_2 : decode cX0_addText 2 = .ok (.iload_n 2, 1) := by decide +kernel
theorem dX0_addText_3 : decode cX0_addText 3 = .ok (.aload_n 1, 1) := by decide +kernel
theorem dX0_addText_4 : decode cX0_addText 4 = .ok (.invokevirtual 19, 3) := by decide +kernel
theorem dX0_addText_7 : decode cX0_addText 7 = .ok (.if_icmp .ge 18, 3) := by decide +kernel
theorem dX0_addText_10 : decode cX0_addText 10 = .ok (.aload_n 0, 1) := by decide +kernel
theorem dX0_addText_11 : decode cX0_addText 11 = .ok (.aload_n 1, 1) := by decide +kernel
theorem dX0_addText_12 : decode cX0_addText 12 = .ok (.iload_n 2, 1) := by decide +kernel
theorem dX0_addText_13 : decode cX0_addText 13 = .ok (.invokevirtual 25, 3) := by decide +kernel
theorem dX0_addText_16 : decode cX0_addText 16 = .ok (.invokevirtual 29, 3) := by decide +kernel
theorem dX0_addText_19 : decode cX0_addText 19 = .ok (.iinc 2 1, 3) := by decide +kernel
theorem dX0_addText_22 : decode cX0_addText 22 = .ok (.goto (-20), 3) := by decide +kernel
theorem dX0_addText_25 : decode cX0_addText 25 = .ok (.return_, 1) := by decide +kernel
theorem dX0_addNumber_0 : decode cX0_addNumber 0 = .ok (.iconst 1, 1) := by decide +kernel
theorem dX0_addNumber_1 : decode cX0_addNumber 1 = .ok (.istore_n 2, 1) := by decide +kernel
theorem dX0_addNumber_2 : decode cX0_addNumber 2 = .ok (.iload_n 2, 1) := by decide +kernel
theorem dX0_addNumber_3 : decode cX0_addNumber 3 = .ok (.iload_n 1, 1) := by decide +kernel
theorem dX0_addNumber_4 : decode cX0_addNumber 4 = .ok (.bipush 10, 2) := by decide +kernel
theorem dX0_addNumber_6 : decode cX0_addNumber 6 = .ok (.idiv, 1) := by decide +kernel
theorem dX0_addNumber_7 : decode cX0_addNumber 7 = .ok (.if_icmp .gt 17, 3) := by decide +kernel
theorem dX0_addNumber_10 : decode cX0_addNumber 10 = .ok (.iload_n 2, 1) := by decide +kernel
theorem dX0_addNumber_11 : decode cX0_addNumber 11 = .ok (.ldc 33, 2) := by decide +kernel
theorem dX0_addNumber_13 : decode cX0_addNumber 13 = .ok (.if_icmp .ge 11, 3) := by decide +kernel
theorem dX0_addNumber_16 : decode cX0_addNumber 16 = .ok (.iload_n 2, 1) := by decide +kernel
theorem dX0_addNumber_17 : decode cX0_addNumber 17 = .ok (.bipush 10, 2) := by decide +kernel
theorem dX0_addNumber_19 : decode cX0_addNumber 19 = .ok (.imul, 1) := by decide +kernel
theorem dX0_addNumber_20 : decode cX0_addNumber 20 = .ok (.istore_n 2, 1) := by decide +kernel
theorem dX0_addNumber_21 : decode cX0_addNumber 21 = .ok (.goto (-19), 3) := by decide +kernel
theorem dX0_addNumber_24 : decode cX0_addNumber 24 = .ok (.iload_n 2, 1) := by decide +kernel
theorem dX0_addNumber_25 : decode cX0_addNumber 25 = .ok (.ifCond .le 24, 3) := by decide +kernel
theorem dX0_addNumber_28 : decode cX0_addNumber 28 = .ok (.aload_n 0, 1) := by decide +kernel
theorem dX0_addNumber_29 : decode cX0_addNumber 29 = .ok (.bipush 48, 2) := by decide +kernel
theorem dX0_addNumber_31 : decode cX0_addNumber 31 = .ok (.iload_n 1, 1) := by decide +kernel
theorem dX0_addNumber_32 : decode cX0_addNumber 32 = .ok (.iload_n 2, 1) := by decide +kernel
theorem dX0_addNumber_33 : decode cX0_addNumber 33 = .ok (.idiv, 1) := by decide +kernel
theorem dX0_addNumber_34 : decode cX0_addNumber 34 = .ok (.bipush 10, 2) := by decide +kernel
theorem dX0_addNumber_36 : decode cX0_addNumber 36 = .ok (.irem, 1) := by decide +kernel
theorem dX0_addNumber_37 : decode cX0_addNumber 37 = .ok (.iadd, 1) := by decide +kernel
theorem dX0_addNumber_38 : decode cX0_addNumber 38 = .ok (.invokevirtual 29, 3) := by decide +kernel
theorem dX0_addNumber_41 : decode cX0_addNumber 41 = .ok (.iload_n 2, 1) := by decide +kernel
theorem dX0_addNumber_42 : decode cX0_addNumber 42 = .ok (.bipush 10, 2) := by decide +kernel
theorem dX0_addNumber_44 : decode cX0_addNumber 44 = .ok (.idiv, 1) := by decide +kernel
theorem dX0_addNumber_45 : decode cX0_addNumber 45 = .ok (.istore_n 2, 1) := by decide +kernel
theorem dX0_addNumber_46 : decode cX0_addNumber 46 = .ok (.goto (-22), 3) := by decide +kernel
theorem dX0_addNumber_49 : decode cX0_addNumber 49 = .ok (.return_, 1) := by decide +kernel
theorem dX0_cutTo_0 : decode cX0_cutTo 0 = .ok (.iload_n 1, 1) := by decide +kernel
theorem dX0_cutTo_1 : decode cX0_cutTo 1 = .ok (.ifCond .lt 11, 3) := by decide +kernel
theorem dX0_cutTo_4 : decode cX0_cutTo 4 = .ok (.iload_n 1, 1) := by decide +kernel
theorem dX0_cutTo_5 : decode cX0_cutTo 5 = .ok (.aload_n 0, 1) := by decide +kernel
theorem dX0_cutTo_6 : decode cX0_cutTo 6 = .ok (.getfield 15, 3) := by decide +kernel
theorem dX0_cutTo_9 : decode cX0_cutTo 9 = .ok (.if_icmp .le 5, 3) := by decide +kernel
theorem dX0_cutTo_12 : decode cX0_cutTo 12 = .ok (.iconst 0, 1) := by decide +kernel
theorem dX0_cutTo_13 : decode cX0_cutTo 13 = .ok (.ireturn, 1) := by decide +kernel
theorem dX0_cutTo_14 : decode cX0_cutTo 14 = .ok (.aload_n 0, 1) := by decide +kernel
theorem dX0_cutTo_15 : decode cX0_cutTo 15 = .ok (.iload_n 1, 1) := by decide +kernel
theorem dX0_cutTo_16 : decode cX0_cutTo 16 = .ok (.putfield 15, 3) := by decide +kernel
theorem dX0_cutTo_19 : decode cX0_cutTo 19 = .ok (.iconst 1, 1) := by decide +kernel
theorem dX0_cutTo_20 : decode cX0_cutTo 20 = .ok (.ireturn, 1) := by decide +kernel
theorem dX0_clear_0 : decode cX0_clear 0 = .ok (.aload_n 0, 1) := by decide +kernel
theorem dX0_clear_1 : decode cX0_clear 1 = .ok (.iconst 0, 1) := by decide +kernel
theorem dX0_clear_2 : decode cX0_clear 2 = .ok (.putfield 15, 3) := by decide +kernel
theorem dX0_clear_5 : decode cX0_clear 5 = .ok (.return_, 1) := by decide +kernel
theorem dX1_init_0 : decode cX1_init 0 = .ok (.aload_n 0, 1) := by decide +kernel
theorem dX1_init_1 : decode cX1_init 1 = .ok (.invokespecial 3, 3) := by decide +kernel
theorem dX1_init_4 : decode cX1_init 4 = .ok (.aload_n 0, 1) := by decide +kernel
theorem dX1_init_5 : decode cX1_init 5 = .ok (.bipush 8, 2) := by decide +kernel
theorem dX1_init_7 : decode cX1_init 7 = .ok (.anewarray 9, 3) := by decide +kernel
theorem dX1_init_10 : decode cX1_init 10 = .ok (.putfield 11, 3) := by decide +kernel
theorem dX1_init_13 : decode cX1_init 13 = .ok (.iconst 0, 1) := by decide +kernel
theorem dX1_init_14 : decode cX1_init 14 = .ok (.istore_n 1, 1) := by decide +kernel
theorem dX1_init_15 : decode cX1_init 15 = .ok (.iload_n 1, 1) := by decide +kernel
theorem dX1_init_16 : decode cX1_init 16 = .ok (.aload_n 0, 1) := by decide +kernel
theorem dX1_init_17 : decode cX1_init 17 = .ok (.getfield 11, 3) := by decide +kernel
theorem dX1_init_20 : decode cX1_init 20 = .ok (.arraylength, 1) := by decide +kernel
theorem dX1_init_21 : decode cX1_init 21 = .ok (.if_icmp .ge 22, 3) := by decide +kernel
theorem dX1_init_24 : decode cX1_init 24 = .ok (.aload_n 0, 1) := by decide +kernel
theorem dX1_init_25 : decode cX1_init 25 = .ok (.getfield 11, 3) := by decide +kernel
theorem dX1_init_28 : decode cX1_init 28 = .ok (.iload_n 1, 1) := by decide +kernel
theorem dX1_init_29 : decode cX1_init 29 = .ok (.new 9, 3) := by decide +kernel
theorem dX1_init_32 : decode cX1_init 32 = .ok (.dup, 1) := by decide +kernel
theorem dX1_init_33 : decode cX1_init 33 = .ok (.invokespecial 17, 3) := by decide +kernel
theorem dX1_init_36 : decode cX1_init 36 = .ok (.aastore, 1) := by decide +kernel
theorem dX1_init_37 : decode cX1_init 37 = .ok (.iinc 1 1, 3) := by decide +kernel
theorem dX1_init_40 : decode cX1_init 40 = .ok (.goto (-25), 3) := by decide +kernel
theorem dX1_init_43 : decode cX1_init 43 = .ok (.aload_n 0, 1) := by decide +kernel
theorem dX1_init_44 : decode cX1_init 44 = .ok (.iconst 0, 1) := by decide +kernel
theorem dX1_init_45 : decode cX1_init 45 = .ok (.putfield 18, 3) := by decide +kernel
theorem dX1_init_48 : decode cX1_init 48 = .ok (.aload_n 0, 1) := by decide +kernel
theorem dX1_init_49 : decode cX1_init 49 = .ok (.iconst 0, 1) := by decide +kernel
theorem dX1_init_50 : decode cX1_init 50 = .ok (.putfield 22, 3) := by decide +kernel
theorem dX1_init_53 : decode cX1_init 53 = .ok (.return_, 1) := by decide +kernel
theorem dX1_size_0 : decode cX1_size 0 = .ok (.aload_n 0, 1) := by decide +kernel
theorem dX1_size_1 : decode cX1_size 1 = .ok (.getfield 22, 3) := by decide +kernel
theorem dX1_size_4 : decode cX1_size 4 = .ok (.ireturn, 1) := by decide +kernel
theorem dX1_forget_0 : decode cX1_forget 0 = .ok (.aload_n 0, 1) := by decide +kernel
theorem dX1_forget_1 : decode cX1_forget 1 = .ok (.iconst 0, 1) := by decide +kernel
theorem dX1_forget_2 : decode cX1_forget 2 = .ok (.putfield 22, 3) := by decide +kernel
theorem dX1_forget_5 : decode cX1_forget 5 = .ok (.return_, 1) := by decide +kernel
theorem dX1_postAt_0 : decode cX1_postAt 0 = .ok (.aload_n 0, 1) := by decide +kernel
theorem dX1_postAt_1 : decode cX1_postAt 1 = .ok (.getfield 18, 3) := by decide +kernel
theorem dX1_postAt_4 : decode cX1_postAt 4 = .ok (.iload_n 1, 1) := by decide +kernel
theorem dX1_postAt_5 : decode cX1_postAt 5 = .ok (.iadd, 1) := by decide +kernel
theorem dX1_postAt_6 : decode cX1_postAt 6 = .ok (.bipush 8, 2) := by decide +kernel
theorem dX1_postAt_8 : decode cX1_postAt 8 = .ok (.irem, 1) := by decide +kernel
theorem dX1_postAt_9 : decode cX1_postAt 9 = .ok (.istore_n 2, 1) := by decide +kernel
theorem dX1_postAt_10 : decode cX1_postAt 10 = .ok (.iload_n 2, 1) := by decide +kernel
theorem dX1_postAt_11 : decode cX1_postAt 11 = .ok (.ifCond .lt 21, 3) := by decide +kernel
theorem dX1_postAt_14 : decode cX1_postAt 14 = .ok (.iload_n 2, 1) := by decide +kernel
theorem dX1_postAt_15 : decode cX1_postAt 15 = .ok (.aload_n 0, 1) := by decide +kernel
theorem dX1_postAt_16 : decode cX1_postAt 16 = .ok (.getfield 11, 3) := by decide +kernel
theorem dX1_postAt_19 : decode cX1_postAt 19 = .ok (.arraylength, 1) := by decide +kernel
theorem dX1_postAt_20 : decode cX1_postAt 20 = .ok (.if_icmp .ge 12, 3) := by decide +kernel
theorem dX1_postAt_23 : decode cX1_postAt 23 = .ok (.aload_n 0, 1) := by decide +kernel
theorem dX1_postAt_24 : decode cX1_postAt 24 = .ok (.getfield 11, 3) := by decide +kernel
theorem dX1_postAt_27 : decode cX1_postAt 27 = .ok (.iload_n 2, 1) := by decide +kernel
theorem dX1_postAt_28 : decode cX1_postAt 28 = .ok (.aaload, 1) := by decide +kernel
theorem dX1_postAt_29 : decode cX1_postAt 29 = .ok (.goto 4, 3) := by decide +kernel
theorem dX1_postAt_32 : decode cX1_postAt 32 = .ok (.aconst_null, 1) := by decide +kernel
theorem dX1_postAt_33 : decode cX1_postAt 33 = .ok (.areturn, 1) := by decide +kernel
theorem dX1_keep_0 : decode cX1_keep 0 = .ok (.aload_n 0, 1) := by decide +kernel
theorem dX1_keep_1 : decode cX1_keep 1 = .ok (.getfield 22, 3) := by decide +kernel
theorem dX1_keep_4 : decode cX1_keep 4 = .ok (.bipush 8, 2) := by decide +kernel
theorem dX1_keep_6 : decode cX1_keep 6 = .ok (.if_icmp .lt 22, 3) := by decide +kernel
theorem dX1_keep_9 : decode cX1_keep 9 = .ok (.aload_n 0, 1) := by decide +kernel
theorem dX1_keep_10 : decode cX1_keep 10 = .ok (.aload_n 0, 1) := by decide +kernel
theorem dX1_keep_11 : decode cX1_keep 11 = .ok (.getfield 18, 3) := by decide +kernel
theorem dX1_keep_14 : decode cX1_keep 14 = .ok (.iconst 1, 1) := by decide +kernel
theorem dX1_keep_15 : decode cX1_keep 15 = .ok (.iadd, 1) := by decide +kernel
theorem dX1_keep_16 : decode cX1_keep 16 = .ok (.bipush 8, 2) := by decide +kernel
theorem dX1_keep_18 : decode cX1_keep 18 = .ok (.irem, 1) := by decide +kernel
theorem dX1_keep_19 : decode cX1_keep 19 = .ok (.putfield 18, 3) := by decide +kernel
theorem dX1_keep_22 : decode cX1_keep 22 = .ok (.aload_n 0, 1) := by decide +kernel
theorem dX1_keep_23 : decode cX1_keep 23 = .ok (.bipush 7, 2) := by decide +kernel
theorem dX1_keep_25 : decode cX1_keep 25 = .ok (.putfield 22, 3) := by decide +kernel
theorem dX1_keep_28 : decode cX1_keep 28 = .ok (.aload_n 0, 1) := by decide +kernel
theorem dX1_keep_29 : decode cX1_keep 29 = .ok (.aload_n 0, 1) := by decide +kernel
theorem dX1_keep_30 : decode cX1_keep 30 = .ok (.getfield 22, 3) := by decide +kernel
theorem dX1_keep_33 : decode cX1_keep 33 = .ok (.invokevirtual 25, 3) := by decide +kernel
theorem dX1_keep_36 : decode cX1_keep 36 = .ok (.astore_n 2, 1) := by decide +kernel
theorem dX1_keep_37 : decode cX1_keep 37 = .ok (.aload_n 2, 1) := by decide +kernel
theorem dX1_keep_38 : decode cX1_keep 38 = .ok (.ifnull 18, 3) := by decide +kernel
theorem dX1_keep_41 : decode cX1_keep 41 = .ok (.aload_n 2, 1) := by decide +kernel
theorem dX1_keep_42 : decode cX1_keep 42 = .ok (.aload_n 1, 1) := by decide +kernel
theorem dX1_keep_43 : decode cX1_keep 43 = .ok (.invokevirtual 29, 3) := by decide +kernel
theorem dX1_keep_46 : decode cX1_keep 46 = .ok (.aload_n 0, 1) := by decide +kernel
theorem dX1_keep_47 : decode cX1_keep 47 = .ok (.dup, 1) := by decide +kernel
theorem dX1_keep_48 : decode cX1_keep 48 = .ok (.getfield 22, 3) := by decide +kernel
theorem dX1_keep_51 : decode cX1_keep 51 = .ok (.iconst 1, 1) := by decide +kernel
theorem dX1_keep_52 : decode cX1_keep 52 = .ok (.iadd, 1) := by decide +kernel
theorem dX1_keep_53 : decode cX1_keep 53 = .ok (.putfield 22, 3) := by decide +kernel
theorem dX1_keep_56 : decode cX1_keep 56 = .ok (.return_, 1) := by decide +kernel
theorem dX1_giveBack_0 : decode cX1_giveBack 0 = .ok (.aload_n 0, 1) := by decide +kernel
theorem dX1_giveBack_1 : decode cX1_giveBack 1 = .ok (.aload_n 0, 1) := by decide +kernel
theorem dX1_giveBack_2 : decode cX1_giveBack 2 = .ok (.getfield 22, 3) := by decide +kernel
theorem dX1_giveBack_5 : decode cX1_giveBack 5 = .ok (.iconst 1, 1) := by decide +kernel
theorem dX1_giveBack_6 : decode cX1_giveBack 6 = .ok (.isub, 1) := by decide +kernel
theorem dX1_giveBack_7 : decode cX1_giveBack 7 = .ok (.invokevirtual 25, 3) := by decide +kernel
theorem dX1_giveBack_10 : decode cX1_giveBack 10 = .ok (.astore_n 2, 1) := by decide +kernel
theorem dX1_giveBack_11 : decode cX1_giveBack 11 = .ok (.aload_n 0, 1) := by decide +kernel
theorem dX1_giveBack_12 : decode cX1_giveBack 12 = .ok (.getfield 22, 3) := by decide +kernel
theorem dX1_giveBack_15 : decode cX1_giveBack 15 = .ok (.ifCond .le 22, 3) := by decide +kernel
theorem dX1_giveBack_18 : decode cX1_giveBack 18 = .ok (.aload_n 2, 1) := by decide +kernel
theorem dX1_giveBack_19 : decode cX1_giveBack 19 = .ok (.ifnull 18, 3) := by decide +kernel
theorem dX1_giveBack_22 : decode cX1_giveBack 22 = .ok (.aload_n 1, 1) := by decide +kernel
theorem dX1_giveBack_23 : decode cX1_giveBack 23 = .ok (.aload_n 2, 1) := by decide +kernel
theorem dX1_giveBack_24 : decode cX1_giveBack 24 = .ok (.invokevirtual 29, 3) := by decide +kernel
theorem dX1_giveBack_27 : decode cX1_giveBack 27 = .ok (.aload_n 0, 1) := by decide +kernel
theorem dX1_giveBack_28 : decode cX1_giveBack 28 = .ok (.dup, 1) := by decide +kernel
theorem dX1_giveBack_29 : decode cX1_giveBack 29 = .ok (.getfield 22, 3) := by decide +kernel
theorem dX1_giveBack_32 : decode cX1_giveBack 32 = .ok (.iconst 1, 1) := by decide +kernel
theorem dX1_giveBack_33 : decode cX1_giveBack 33 = .ok (.isub, 1) := by decide +kernel
theorem dX1_giveBack_34 : decode cX1_giveBack 34 = .ok (.putfield 22, 3) := by decide +kernel
theorem dX1_giveBack_37 : decode cX1_giveBack 37 = .ok (.return_, 1) := by decide +kernel
theorem dX2_init_0 : decode cX2_init 0 = .ok (.aload_n 0, 1) := by decide +kernel
theorem dX2_init_1 : decode cX2_init 1 = .ok (.invokespecial 3, 3) := by decide +kernel
theorem dX2_init_4 : decode cX2_init 4 = .ok (.aload_n 0, 1) := by decide +kernel
theorem dX2_init_5 : decode cX2_init 5 = .ok (.new 9, 3) := by decide +kernel
theorem dX2_init_8 : decode cX2_init 8 = .ok (.dup, 1) := by decide +kernel
theorem dX2_init_9 : decode cX2_init 9 = .ok (.bipush 10, 2) := by decide +kernel
theorem dX2_init_11 : decode cX2_init 11 = .ok (.bipush 8, 2) := by decide +kernel
theorem dX2_init_13 : decode cX2_init 13 = .ok (.invokespecial 13, 3) := by decide +kernel
theorem dX2_init_16 : decode cX2_init 16 = .ok (.putfield 16, 3) := by decide +kernel
theorem dX2_init_19 : decode cX2_init 19 = .ok (.aload_n 0, 1) := by decide +kernel
theorem dX2_init_20 : decode cX2_init 20 = .ok (.new 9, 3) := by decide +kernel
theorem dX2_init_23 : decode cX2_init 23 = .ok (.dup, 1) := by decide +kernel
theorem dX2_init_24 : decode cX2_init 24 = .ok (.bipush 20, 2) := by decide +kernel
theorem dX2_init_26 : decode cX2_init 26 = .ok (.iconst 3, 1) := by decide +kernel
theorem dX2_init_27 : decode cX2_init 27 = .ok (.invokespecial 13, 3) := by decide +kernel
theorem dX2_init_30 : decode cX2_init 30 = .ok (.putfield 20, 3) := by decide +kernel
theorem dX2_init_33 : decode cX2_init 33 = .ok (.aload_n 0, 1) := by decide +kernel
theorem dX2_init_34 : decode cX2_init 34 = .ok (.new 9, 3) := by decide +kernel
theorem dX2_init_37 : decode cX2_init 37 = .ok (.dup, 1) := by decide +kernel
theorem dX2_init_38 : decode cX2_init 38 = .ok (.bipush 30, 2) := by decide +kernel
theorem dX2_init_40 : decode cX2_init 40 = .ok (.bipush 13, 2) := by decide +kernel
theorem dX2_init_42 : decode cX2_init 42 = .ok (.invokespecial 13, 3) := by decide +kernel
theorem dX2_init_45 : decode cX2_init 45 = .ok (.putfield 23, 3) := by decide +kernel
theorem dX2_init_48 : decode cX2_init 48 = .ok (.aload_n 0, 1) := by decide +kernel
theorem dX2_init_49 : decode cX2_init 49 = .ok (.new 9, 3) := by decide +kernel
theorem dX2_init_52 : decode cX2_init 52 = .ok (.dup, 1) := by decide +kernel
theorem dX2_init_53 : decode cX2_init 53 = .ok (.iconst 1, 1) := by decide +kernel
theorem dX2_init_54 : decode cX2_init 54 = .ok (.iconst 3, 1) := by decide +kernel
theorem dX2_init_55 : decode cX2_init 55 = .ok (.invokespecial 13, 3) := by decide +kernel
theorem dX2_init_58 : decode cX2_init 58 = .ok (.putfield 26, 3) := by decide +kernel
theorem dX2_init_61 : decode cX2_init 61 = .ok (.aload_n 0, 1) := by decide +kernel
theorem dX2_init_62 : decode cX2_init 62 = .ok (.new 9, 3) := by decide +kernel
theorem dX2_init_65 : decode cX2_init 65 = .ok (.dup, 1) := by decide +kernel
theorem dX2_init_66 : decode cX2_init 66 = .ok (.iconst 1, 1) := by decide +kernel
theorem dX2_init_67 : decode cX2_init 67 = .ok (.bipush 11, 2) := by decide +kernel
theorem dX2_init_69 : decode cX2_init 69 = .ok (.invokespecial 13, 3) := by decide +kernel
theorem dX2_init_72 : decode cX2_init 72 = .ok (.putfield 29, 3) := by decide +kernel
theorem dX2_init_75 : decode cX2_init 75 = .ok (.aload_n 0, 1) := by decide +kernel
theorem dX2_init_76 : decode cX2_init 76 = .ok (.new 32, 3) := by decide +kernel
theorem dX2_init_79 : decode cX2_init 79 = .ok (.dup, 1) := by decide +kernel
theorem dX2_init_80 : decode cX2_init 80 = .ok (.invokespecial 34, 3) := by decide +kernel
theorem dX2_init_83 : decode cX2_init 83 = .ok (.putfield 35, 3) := by decide +kernel
theorem dX2_init_86 : decode cX2_init 86 = .ok (.return_, 1) := by decide +kernel
theorem dX2_clear_0 : decode cX2_clear 0 = .ok (.aload_n 0, 1) := by decide +kernel
theorem dX2_clear_1 : decode cX2_clear 1 = .ok (.iconst 0, 1) := by decide +kernel
theorem dX2_clear_2 : decode cX2_clear 2 = .ok (.putfield 39, 3) := by decide +kernel
theorem dX2_clear_5 : decode cX2_clear 5 = .ok (.aload_n 0, 1) := by decide +kernel
theorem dX2_clear_6 : decode cX2_clear 6 = .ok (.iconst 0, 1) := by decide +kernel
theorem dX2_clear_7 : decode cX2_clear 7 = .ok (.putfield 43, 3) := by decide +kernel
theorem dX2_clear_10 : decode cX2_clear 10 = .ok (.aload_n 0, 1) := by decide +kernel
theorem dX2_clear_11 : decode cX2_clear 11 = .ok (.iconst 0, 1) := by decide +kernel
theorem dX2_clear_12 : decode cX2_clear 12 = .ok (.putfield 46, 3) := by decide +kernel
theorem dX2_clear_15 : decode cX2_clear 15 = .ok (.aload_n 0, 1) := by decide +kernel
theorem dX2_clear_16 : decode cX2_clear 16 = .ok (.iconst 0, 1) := by decide +kernel
theorem dX2_clear_17 : decode cX2_clear 17 = .ok (.putfield 49, 3) := by decide +kernel
theorem dX2_clear_20 : decode cX2_clear 20 = .ok (.aload_n 0, 1) := by decide +kernel
theorem dX2_clear_21 : decode cX2_clear 21 = .ok (.bipush 8, 2) := by decide +kernel
theorem dX2_clear_23 : decode cX2_clear 23 = .ok (.iconst 3, 1) := by decide +kernel
theorem dX2_clear_24 : decode cX2_clear 24 = .ok (.invokevirtual 52, 3) := by decide +kernel
theorem dX2_clear_27 : decode cX2_clear 27 = .ok (.aload_n 0, 1) := by decide +kernel
theorem dX2_clear_28 : decode cX2_clear 28 = .ok (.bipush 9, 2) := by decide +kernel
theorem dX2_clear_30 : decode cX2_clear 30 = .ok (.bipush 50, 2) := by decide +kernel
theorem dX2_clear_32 : decode cX2_clear 32 = .ok (.invokevirtual 52, 3) := by decide +kernel
theorem dX2_clear_35 : decode cX2_clear 35 = .ok (.aload_n 0, 1) := by decide +kernel
theorem dX2_clear_36 : decode cX2_clear 36 = .ok (.bipush 10, 2) := by decide +kernel
theorem dX2_clear_38 : decode cX2_clear 38 = .ok (.iconst 1, 1) := by decide +kernel
theorem dX2_clear_39 : decode cX2_clear 39 = .ok (.invokevirtual 52, 3) := by decide +kernel
theorem dX2_clear_42 : decode cX2_clear 42 = .ok (.aload_n 0, 1) := by decide +kernel
theorem dX2_clear_43 : decode cX2_clear 43 = .ok (.getfield 29, 3) := by decide +kernel
theorem dX2_clear_46 : decode cX2_clear 46 = .ok (.iconst 0, 1) := by decide +kernel
theorem dX2_clear_47 : decode cX2_clear 47 = .ok (.invokevirtual 55, 3) := by decide +kernel
theorem dX2_clear_50 : decode cX2_clear 50 = .ok (.return_, 1) := by decide +kernel
theorem dX2_copyFrom_0 : decode cX2_copyFrom 0 = .ok (.aload_n 0, 1) := by decide +kernel
theorem dX2_copyFrom_1 : decode cX2_copyFrom 1 = .ok (.aload_n 1, 1) := by decide +kernel
theorem dX2_copyFrom_2 : decode cX2_copyFrom 2 = .ok (.getfield 39, 3) := by decide +kernel
theorem dX2_copyFrom_5 : decode cX2_copyFrom 5 = .ok (.putfield 39, 3) := by decide +kernel
theorem dX2_copyFrom_8 : decode cX2_copyFrom 8 = .ok (.aload_n 0, 1) := by decide +kernel
theorem dX2_copyFrom_9 : decode cX2_copyFrom 9 = .ok (.aload_n 1, 1) := by decide +kernel
theorem dX2_copyFrom_10 : decode cX2_copyFrom 10 = .ok (.getfield 43, 3) := by decide +kernel
theorem dX2_copyFrom_13 : decode cX2_copyFrom 13 = .ok (.putfield 43, 3) := by decide +kernel
theorem dX2_copyFrom_16 : decode cX2_copyFrom 16 = .ok (.aload_n 0, 1) := by decide +kernel
theorem dX2_copyFrom_17 : decode cX2_copyFrom 17 = .ok (.aload_n 1, 1) := by decide +kernel
theorem dX2_copyFrom_18 : decode cX2_copyFrom 18 = .ok (.getfield 46, 3) := by decide +kernel
theorem dX2_copyFrom_21 : decode cX2_copyFrom 21 = .ok (.putfield 46, 3) := by decide +kernel
theorem dX2_copyFrom_24 : decode cX2_copyFrom 24 = .ok (.aload_n 0, 1) := by decide +kernel
theorem dX2_copyFrom_25 : decode cX2_copyFrom 25 = .ok (.aload_n 1, 1) := by decide +kernel
theorem dX2_copyFrom_26 : decode cX2_copyFrom 26 = .ok (.getfield 49, 3) := by decide +kernel
theorem dX2_copyFrom_29 : decode cX2_copyFrom 29 = .ok (.putfield 49, 3) := by decide +kernel
theorem dX2_copyFrom_32 : decode cX2_copyFrom 32 = .ok (.aload_n 0, 1) := by decide +kernel
theorem dX2_copyFrom_33 : decode cX2_copyFrom 33 = .ok (.getfield 16, 3) := by decide +kernel
theorem dX2_copyFrom_36 : decode cX2_copyFrom 36 = .ok (.aload_n 1, 1) := by decide +kernel
theorem dX2_copyFrom_37 : decode cX2_copyFrom 37 = .ok (.getfield 16, 3) := by decide +kernel
theorem dX2_copyFrom_40 : decode cX2_copyFrom 40 = .ok (.invokevirtual 59, 3) := by decide +kernel
theorem dX2_copyFrom_43 : decode cX2_copyFrom 43 = .ok (.aload_n 0, 1) := by decide +kernel
theorem dX2_copyFrom_44 : decode cX2_copyFrom 44 = .ok (.getfield 20, 3) := by decide +kernel
theorem dX2_copyFrom_47 : decode cX2_copyFrom 47 = .ok (.aload_n 1, 1) := by decide +kernel
theorem dX2_copyFrom_48 : decode cX2_copyFrom 48 = .ok (.getfield 20, 3) := by decide +kernel
theorem dX2_copyFrom_51 : decode cX2_copyFrom 51 = .ok (.invokevirtual 59, 3) := by decide +kernel
theorem dX2_copyFrom_54 : decode cX2_copyFrom 54 = .ok (.aload_n 0, 1) := by decide +kernel
theorem dX2_copyFrom_55 : decode cX2_copyFrom 55 = .ok (.getfield 23, 3) := by decide +kernel
theorem dX2_copyFrom_58 : decode cX2_copyFrom 58 = .ok (.aload_n 1, 1) := by decide +kernel
theorem dX2_copyFrom_59 : decode cX2_copyFrom 59 = .ok (.getfield 23, 3) := by decide +kernel
theorem dX2_copyFrom_62 : decode cX2_copyFrom 62 = .ok (.invokevirtual 59, 3) := by decide +kernel
theorem dX2_copyFrom_65 : decode cX2_copyFrom 65 = .ok (.aload_n 0, 1) := by decide +kernel
theorem dX2_copyFrom_66 : decode cX2_copyFrom 66 = .ok (.getfield 26, 3) := by decide +kernel
theorem dX2_copyFrom_69 : decode cX2_copyFrom 69 = .ok (.aload_n 1, 1) := by decide +kernel
theorem dX2_copyFrom_70 : decode cX2_copyFrom 70 = .ok (.getfield 26, 3) := by decide +kernel
theorem dX2_copyFrom_73 : decode cX2_copyFrom 73 = .ok (.invokevirtual 59, 3) := by decide +kernel
theorem dX2_copyFrom_76 : decode cX2_copyFrom 76 = .ok (.aload_n 0, 1) := by decide +kernel
theorem dX2_copyFrom_77 : decode cX2_copyFrom 77 = .ok (.getfield 29, 3) := by decide +kernel
theorem dX2_copyFrom_80 : decode cX2_copyFrom 80 = .ok (.aload_n 1, 1) := by decide +kernel
theorem dX2_copyFrom_81 : decode cX2_copyFrom 81 = .ok (.getfield 29, 3) := by decide +kernel
theorem dX2_copyFrom_84 : decode cX2_copyFrom 84 = .ok (.invokevirtual 59, 3) := by decide +kernel
theorem dX2_copyFrom_87 : decode cX2_copyFrom 87 = .ok (.aload_n 0, 1) := by decide +kernel
theorem dX2_copyFrom_88 : decode cX2_copyFrom 88 = .ok (.getfield 35, 3) := by decide +kernel
theorem dX2_copyFrom_91 : decode cX2_copyFrom 91 = .ok (.aload_n 1, 1) := by decide +kernel
theorem dX2_copyFrom_92 : decode cX2_copyFrom 92 = .ok (.getfield 35, 3) := by decide +kernel
theorem dX2_copyFrom_95 : decode cX2_copyFrom 95 = .ok (.invokevirtual 63, 3) := by decide +kernel
theorem dX2_copyFrom_98 : decode cX2_copyFrom 98 = .ok (.return_, 1) := by decide +kernel
theorem dX2_leastOf_0 : decode cX2_leastOf 0 = .ok (.iload_n 0, 1) := by decide +kernel
theorem dX2_leastOf_1 : decode cX2_leastOf 1 = .ok (.bipush 9, 2) := by decide +kernel
theorem dX2_leastOf_3 : decode cX2_leastOf 3 = .ok (.if_icmp .ne 7, 3) := by decide +kernel
theorem dX2_leastOf_6 : decode cX2_leastOf 6 = .ok (.iconst 1, 1) := by decide +kernel
theorem dX2_leastOf_7 : decode cX2_leastOf 7 = .ok (.goto 4, 3) := by decide +kernel
theorem dX2_leastOf_10 : decode cX2_leastOf 10 = .ok (.iconst 0, 1) := by decide +kernel
theorem dX2_leastOf_11 : decode cX2_leastOf 11 = .ok (.ireturn, 1) := by decide +kernel
theorem dX2_mostOf_0 : decode cX2_mostOf 0 = .ok (.iload_n 0, 1) := by decide +kernel
theorem dX2_mostOf_1 : decode cX2_mostOf 1 = .ok (.bipush 8, 2) := by decide +kernel
theorem dX2_mostOf_3 : decode cX2_mostOf 3 = .ok (.if_icmp .ne 6, 3) := by decide +kernel
theorem dX2_mostOf_6 : decode cX2_mostOf 6 = .ok (.bipush 9, 2) := by decide +kernel
theorem dX2_mostOf_8 : decode cX2_mostOf 8 = .ok (.ireturn, 1) := by decide +kernel
theorem dX2_mostOf_9 : decode cX2_mostOf 9 = .ok (.iload_n 0, 1) := by decide +kernel
theorem dX2_mostOf_10 : decode cX2_mostOf 10 = .ok (.bipush 9, 2) := by decide +kernel
theorem dX2_mostOf_12 : decode cX2_mostOf 12 = .ok (.if_icmp .ne 8, 3) := by decide +kernel
theorem dX2_mostOf_15 : decode cX2_mostOf 15 = .ok (.bipush 60, 2) := by decide +kernel
theorem dX2_mostOf_17 : decode cX2_mostOf 17 = .ok (.goto 4, 3) := by decide +kernel
theorem dX2_mostOf_20 : decode cX2_mostOf 20 = .ok (.iconst 3, 1) := by decide +kernel
theorem dX2_mostOf_21 : decode cX2_mostOf 21 = .ok (.ireturn, 1) := by decide +kernel
theorem dX2_setting_0 : decode cX2_setting 0 = .ok (.aload_n 0, 1) := by decide +kernel
theorem dX2_setting_1 : decode cX2_setting 1 = .ok (.getfield 26, 3) := by decide +kernel
theorem dX2_setting_4 : decode cX2_setting 4 = .ok (.iconst 0, 1) := by decide +kernel
theorem dX2_setting_5 : decode cX2_setting 5 = .ok (.iload_n 1, 1) := by decide +kernel
theorem dX2_setting_6 : decode cX2_setting 6 = .ok (.bipush 8, 2) := by decide +kernel
theorem dX2_setting_8 : decode cX2_setting 8 = .ok (.isub, 1) := by decide +kernel
theorem dX2_setting_9 : decode cX2_setting 9 = .ok (.invokevirtual 66, 3) := by decide +kernel
theorem dX2_setting_12 : decode cX2_setting 12 = .ok (.ireturn, 1) := by decide +kernel
theorem dX2_settle_0 : decode cX2_settle 0 = .ok (.aload_n 0, 1) := by decide +kernel
theorem dX2_settle_1 : decode cX2_settle 1 = .ok (.getfield 26, 3) := by decide +kernel
theorem dX2_settle_4 : decode cX2_settle 4 = .ok (.iconst 0, 1) := by decide +kernel
theorem dX2_settle_5 : decode cX2_settle 5 = .ok (.iload_n 1, 1) := by decide +kernel
theorem dX2_settle_6 : decode cX2_settle 6 = .ok (.bipush 8, 2) := by decide +kernel
theorem dX2_settle_8 : decode cX2_settle 8 = .ok (.isub, 1) := by decide +kernel
theorem dX2_settle_9 : decode cX2_settle 9 = .ok (.iload_n 2, 1) := by decide +kernel
theorem dX2_settle_10 : decode cX2_settle 10 = .ok (.invokevirtual 70, 3) := by decide +kernel
theorem dX2_settle_13 : decode cX2_settle 13 = .ok (.return_, 1) := by decide +kernel
theorem dX2_enter_0 : decode cX2_enter 0 = .ok (.aload_n 0, 1) := by decide +kernel
theorem dX2_enter_1 : decode cX2_enter 1 = .ok (.getfield 29, 3) := by decide +kernel
theorem dX2_enter_4 : decode cX2_enter 4 = .ok (.iconst 0, 1) := by decide +kernel
theorem dX2_enter_5 : decode cX2_enter 5 = .ok (.iload_n 1, 1) := by decide +kernel
theorem dX2_enter_6 : decode cX2_enter 6 = .ok (.iload_n 2, 1) := by decide +kernel
theorem dX2_enter_7 : decode cX2_enter 7 = .ok (.invokevirtual 74, 3) := by decide +kernel
theorem dX2_enter_10 : decode cX2_enter 10 = .ok (.return_, 1) := by decide +kernel
theorem dX2_addRoof_0 : decode cX2_addRoof 0 = .ok (.aload_n 0, 1) := by decide +kernel
theorem dX2_addRoof_1 : decode cX2_addRoof 1 = .ok (.getfield 43, 3) := by decide +kernel
theorem dX2_addRoof_4 : decode cX2_addRoof 4 = .ok (.istore 6, 2) := by decide +kernel
theorem dX2_addRoof_6 : decode cX2_addRoof 6 = .ok (.aload_n 0, 1) := by decide +kernel
theorem dX2_addRoof_7 : decode cX2_addRoof 7 = .ok (.getfield 16, 3) := by decide +kernel
theorem dX2_addRoof_10 : decode cX2_addRoof 10 = .ok (.iload 6, 2) := by decide +kernel
theorem dX2_addRoof_12 : decode cX2_addRoof 12 = .ok (.iconst 5, 1) := by decide +kernel
theorem dX2_addRoof_13 : decode cX2_addRoof 13 = .ok (.iload_n 1, 1) := by decide +kernel
theorem dX2_addRoof_14 : decode cX2_addRoof 14 = .ok (.invokevirtual 70, 3) := by decide +kernel
theorem dX2_addRoof_17 : decode cX2_addRoof 17 = .ok (.aload_n 0, 1) := by decide +kernel
theorem dX2_addRoof_18 : decode cX2_addRoof 18 = .ok (.getfield 16, 3) := by decide +kernel
theorem dX2_addRoof_21 : decode cX2_addRoof 21 = .ok (.iload 6, 2) := by decide +kernel
theorem dX2_addRoof_23 : decode cX2_addRoof 23 = .ok (.iconst 0, 1) := by decide +kernel
theorem dX2_addRoof_24 : decode cX2_addRoof 24 = .ok (.iload_n 2, 1) := by decide +kernel
theorem dX2_addRoof_25 : decode cX2_addRoof 25 = .ok (.invokevirtual 70, 3) := by decide +kernel
theorem dX2_addRoof_28 : decode cX2_addRoof 28 = .ok (.aload_n 0, 1) := by decide +kernel
theorem dX2_addRoof_29 : decode cX2_addRoof 29 = .ok (.getfield 16, 3) := by decide +kernel
theorem dX2_addRoof_32 : decode cX2_addRoof 32 = .ok (.iload 6, 2) := by decide +kernel
theorem dX2_addRoof_34 : decode cX2_addRoof 34 = .ok (.iconst 1, 1) := by decide +kernel
theorem dX2_addRoof_35 : decode cX2_addRoof 35 = .ok (.iload_n 3, 1) := by decide +kernel
theorem dX2_addRoof_36 : decode cX2_addRoof 36 = .ok (.invokevirtual 70, 3) := by decide +kernel
theorem dX2_addRoof_39 : decode cX2_addRoof 39 = .ok (.aload_n 0, 1) := by decide +kernel
theorem dX2_addRoof_40 : decode cX2_addRoof 40 = .ok (.getfield 16, 3) := by decide +kernel
theorem dX2_addRoof_43 : decode cX2_addRoof 43 = .ok (.iload 6, 2) := by decide +kernel
theorem dX2_addRoof_45 : decode cX2_addRoof 45 = .ok (.iconst 2, 1) := by decide +kernel
theorem dX2_addRoof_46 : decode cX2_addRoof 46 = .ok (.iload 4, 2) := by decide +kernel
theorem dX2_addRoof_48 : decode cX2_addRoof 48 = .ok (.invokevirtual 70, 3) := by decide +kernel
theorem dX2_addRoof_51 : decode cX2_addRoof 51 = .ok (.aload_n 0, 1) := by decide +kernel
theorem dX2_addRoof_52 : decode cX2_addRoof 52 = .ok (.getfield 16, 3) := by decide +kernel
theorem dX2_addRoof_55 : decode cX2_addRoof 55 = .ok (.iload 6, 2) := by decide +kernel
theorem dX2_addRoof_57 : decode cX2_addRoof 57 = .ok (.iconst 3, 1) := by decide +kernel
theorem dX2_addRoof_58 : decode cX2_addRoof 58 = .ok (.iload 5, 2) := by decide +kernel
theorem dX2_addRoof_60 : decode cX2_addRoof 60 = .ok (.invokevirtual 70, 3) := by decide +kernel
theorem dX2_addRoof_63 : decode cX2_addRoof 63 = .ok (.aload_n 0, 1) := by decide +kernel
theorem dX2_addRoof_64 : decode cX2_addRoof 64 = .ok (.getfield 16, 3) := by decide +kernel
theorem dX2_addRoof_67 : decode cX2_addRoof 67 = .ok (.iload 6, 2) := by decide +kernel
theorem dX2_addRoof_69 : decode cX2_addRoof 69 = .ok (.bipush 6, 2) := by decide +kernel
theorem dX2_addRoof_71 : decode cX2_addRoof 71 = .ok (.iload 5, 2) := by decide +kernel
theorem dX2_addRoof_73 : decode cX2_addRoof 73 = .ok (.invokevirtual 70, 3) := by decide +kernel
theorem dX2_addRoof_76 : decode cX2_addRoof 76 = .ok (.aload_n 0, 1) := by decide +kernel
theorem dX2_addRoof_77 : decode cX2_addRoof 77 = .ok (.getfield 16, 3) := by decide +kernel
theorem dX2_addRoof_80 : decode cX2_addRoof 80 = .ok (.iload 6, 2) := by decide +kernel
theorem dX2_addRoof_82 : decode cX2_addRoof 82 = .ok (.iconst 4, 1) := by decide +kernel
theorem dX2_addRoof_83 : decode cX2_addRoof 83 = .ok (.iconst 0, 1) := by decide +kernel
theorem dX2_addRoof_84 : decode cX2_addRoof 84 = .ok (.invokevirtual 70, 3) := by decide +kernel
theorem dX2_addRoof_87 : decode cX2_addRoof 87 = .ok (.aload_n 0, 1) := by decide +kernel
theorem dX2_addRoof_88 : decode cX2_addRoof 88 = .ok (.getfield 16, 3) := by decide +kernel
theorem dX2_addRoof_91 : decode cX2_addRoof 91 = .ok (.iload 6, 2) := by decide +kernel
theorem dX2_addRoof_93 : decode cX2_addRoof 93 = .ok (.bipush 7, 2) := by decide +kernel
theorem dX2_addRoof_95 : decode cX2_addRoof 95 = .ok (.iconst 0, 1) := by decide +kernel
theorem dX2_addRoof_96 : decode cX2_addRoof 96 = .ok (.invokevirtual 70, 3) := by decide +kernel
theorem dX2_addRoof_99 : decode cX2_addRoof 99 = .ok (.aload_n 0, 1) := by decide +kernel
theorem dX2_addRoof_100 : decode cX2_addRoof 100 = .ok (.dup, 1) := by decide +kernel
theorem dX2_addRoof_101 : decode cX2_addRoof 101 = .ok (.getfield 43, 3) := by decide +kernel
theorem dX2_addRoof_104 : decode cX2_addRoof 104 = .ok (.iconst 1, 1) := by decide +kernel
theorem dX2_addRoof_105 : decode cX2_addRoof 105 = .ok (.iadd, 1) := by decide +kernel
theorem dX2_addRoof_106 : decode cX2_addRoof 106 = .ok (.putfield 43, 3) := by decide +kernel
theorem dX2_addRoof_109 : decode cX2_addRoof 109 = .ok (.return_, 1) := by decide +kernel
theorem dX2_addWay_0 : decode cX2_addWay 0 = .ok (.aload_n 0, 1) := by decide +kernel
theorem dX2_addWay_1 : decode cX2_addWay 1 = .ok (.getfield 20, 3) := by decide +kernel
theorem dX2_addWay_4 : decode cX2_addWay 4 = .ok (.aload_n 0, 1) := by decide +kernel
theorem dX2_addWay_5 : decode cX2_addWay 5 = .ok (.getfield 46, 3) := by decide +kernel
theorem dX2_addWay_8 : decode cX2_addWay 8 = .ok (.iconst 0, 1) := by decide +kernel
theorem dX2_addWay_9 : decode cX2_addWay 9 = .ok (.iload_n 1, 1) := by decide +kernel
theorem dX2_addWay_10 : decode cX2_addWay 10 = .ok (.invokevirtual 70, 3) := by decide +kernel
theorem dX2_addWay_13 : decode cX2_addWay 13 = .ok (.aload_n 0, 1) := by decide +kernel
theorem dX2_addWay_14 : decode cX2_addWay 14 = .ok (.getfield 20, 3) := by decide +kernel
theorem dX2_addWay_17 : decode cX2_addWay 17 = .ok (.aload_n 0, 1) := by decide +kernel
theorem dX2_addWay_18 : decode cX2_addWay 18 = .ok (.getfield 46, 3) := by decide +kernel
theorem dX2_addWay_21 : decode cX2_addWay 21 = .ok (.iconst 1, 1) := by decide +kernel
theorem dX2_addWay_22 : decode cX2_addWay 22 = .ok (.iload_n 2, 1) := by decide +kernel
theorem dX2_addWay_23 : decode cX2_addWay 23 = .ok (.invokevirtual 70, 3) := by decide +kernel
theorem dX2_addWay_26 : decode cX2_addWay 26 = .ok (.aload_n 0, 1) := by decide +kernel
theorem dX2_addWay_27 : decode cX2_addWay 27 = .ok (.getfield 20, 3) := by decide +kernel
theorem dX2_addWay_30 : decode cX2_addWay 30 = .ok (.aload_n 0, 1) := by decide +kernel
theorem dX2_addWay_31 : decode cX2_addWay 31 = .ok (.getfield 46, 3) := by decide +kernel
theorem dX2_addWay_34 : decode cX2_addWay 34 = .ok (.iconst 2, 1) := by decide +kernel
theorem dX2_addWay_35 : decode cX2_addWay 35 = .ok (.iload_n 3, 1) := by decide +kernel
theorem dX2_addWay_36 : decode cX2_addWay 36 = .ok (.invokevirtual 70, 3) := by decide +kernel
theorem dX2_addWay_39 : decode cX2_addWay 39 = .ok (.aload_n 0, 1) := by decide +kernel
theorem dX2_addWay_40 : decode cX2_addWay 40 = .ok (.dup, 1) := by decide +kernel
theorem dX2_addWay_41 : decode cX2_addWay 41 = .ok (.getfield 46, 3) := by decide +kernel
theorem dX2_addWay_44 : decode cX2_addWay 44 = .ok (.iconst 1, 1) := by decide +kernel
theorem dX2_addWay_45 : decode cX2_addWay 45 = .ok (.iadd, 1) := by decide +kernel
theorem dX2_addWay_46 : decode cX2_addWay 46 = .ok (.putfield 46, 3) := by decide +kernel
theorem dX2_addWay_49 : decode cX2_addWay 49 = .ok (.return_, 1) := by decide +kernel
theorem dX2_addTune_0 : decode cX2_addTune 0 = .ok (.aload_n 0, 1) := by decide +kernel
theorem dX2_addTune_1 : decode cX2_addTune 1 = .ok (.getfield 49, 3) := by decide +kernel
theorem dX2_addTune_4 : decode cX2_addTune 4 = .ok (.istore 7, 2) := by decide +kernel
theorem dX2_addTune_6 : decode cX2_addTune 6 = .ok (.aload_n 0, 1) := by decide +kernel
theorem dX2_addTune_7 : decode cX2_addTune 7 = .ok (.getfield 23, 3) := by decide +kernel
theorem dX2_addTune_10 : decode cX2_addTune 10 = .ok (.iload 7, 2) := by decide +kernel
theorem dX2_addTune_12 : decode cX2_addTune 12 = .ok (.iconst 0, 1) := by decide +kernel
theorem dX2_addTune_13 : decode cX2_addTune 13 = .ok (.iload_n 1, 1) := by decide +kernel
theorem dX2_addTune_14 : decode cX2_addTune 14 = .ok (.invokevirtual 70, 3) := by decide +kernel
theorem dX2_addTune_17 : decode cX2_addTune 17 = .ok (.aload_n 0, 1) := by decide +kernel
theorem dX2_addTune_18 : decode cX2_addTune 18 = .ok (.getfield 23, 3) := by decide +kernel
theorem dX2_addTune_21 : decode cX2_addTune 21 = .ok (.iload 7, 2) := by decide +kernel
theorem dX2_addTune_23 : decode cX2_addTune 23 = .ok (.iconst 1, 1) := by decide +kernel
theorem dX2_addTune_24 : decode cX2_addTune 24 = .ok (.iload_n 2, 1) := by decide +kernel
theorem dX2_addTune_25 : decode cX2_addTune 25 = .ok (.invokevirtual 70, 3) := by decide +kernel
theorem dX2_addTune_28 : decode cX2_addTune 28 = .ok (.aload_n 0, 1) := by decide +kernel
theorem dX2_addTune_29 : decode cX2_addTune 29 = .ok (.getfield 23, 3) := by decide +kernel
theorem dX2_addTune_32 : decode cX2_addTune 32 = .ok (.iload 7, 2) := by decide +kernel
theorem dX2_addTune_34 : decode cX2_addTune 34 = .ok (.iconst 2, 1) := by decide +kernel
theorem dX2_addTune_35 : decode cX2_addTune 35 = .ok (.iload_n 3, 1) := by decide +kernel
theorem dX2_addTune_36 : decode cX2_addTune 36 = .ok (.invokevirtual 70, 3) := by decide +kernel
theorem dX2_addTune_39 : decode cX2_addTune 39 = .ok (.aload_n 0, 1) := by decide +kernel
theorem dX2_addTune_40 : decode cX2_addTune 40 = .ok (.getfield 23, 3) := by decide +kernel
theorem dX2_addTune_43 : decode cX2_addTune 43 = .ok (.iload 7, 2) := by decide +kernel
theorem dX2_addTune_45 : decode cX2_addTune 45 = .ok (.iconst 3, 1) := by decide +kernel
theorem dX2_addTune_46 : decode cX2_addTune 46 = .ok (.iconst 0, 1) := by decide +kernel
theorem dX2_addTune_47 : decode cX2_addTune 47 = .ok (.invokevirtual 70, 3) := by decide +kernel
theorem dX2_addTune_50 : decode cX2_addTune 50 = .ok (.aload_n 0, 1) := by decide +kernel
theorem dX2_addTune_51 : decode cX2_addTune 51 = .ok (.getfield 23, 3) := by decide +kernel
theorem dX2_addTune_54 : decode cX2_addTune 54 = .ok (.iload 7, 2) := by decide +kernel
theorem dX2_addTune_56 : decode cX2_addTune 56 = .ok (.iconst 4, 1) := by decide +kernel
theorem dX2_addTune_57 : decode cX2_addTune 57 = .ok (.iload_n 1, 1) := by decide +kernel
theorem dX2_addTune_58 : decode cX2_addTune 58 = .ok (.invokevirtual 70, 3) := by decide +kernel
theorem dX2_addTune_61 : decode cX2_addTune 61 = .ok (.aload_n 0, 1) := by decide +kernel
theorem dX2_addTune_62 : decode cX2_addTune 62 = .ok (.getfield 23, 3) := by decide +kernel
theorem dX2_addTune_65 : decode cX2_addTune 65 = .ok (.iload 7, 2) := by decide +kernel
theorem dX2_addTune_67 : decode cX2_addTune 67 = .ok (.iconst 5, 1) := by decide +kernel
theorem dX2_addTune_68 : decode cX2_addTune 68 = .ok (.iconst (-1), 1) := by decide +kernel
theorem dX2_addTune_69 : decode cX2_addTune 69 = .ok (.invokevirtual 70, 3) := by decide +kernel
theorem dX2_addTune_72 : decode cX2_addTune 72 = .ok (.aload_n 0, 1) := by decide +kernel
theorem dX2_addTune_73 : decode cX2_addTune 73 = .ok (.getfield 23, 3) := by decide +kernel
theorem dX2_addTune_76 : decode cX2_addTune 76 = .ok (.iload 7, 2) := by decide +kernel
theorem dX2_addTune_78 : decode cX2_addTune 78 = .ok (.bipush 6, 2) := by decide +kernel
theorem dX2_addTune_80 : decode cX2_addTune 80 = .ok (.iload 5, 2) := by decide +kernel
theorem dX2_addTune_82 : decode cX2_addTune 82 = .ok (.ifCond .eq 7, 3) := by decide +kernel
theorem dX2_addTune_85 : decode cX2_addTune 85 = .ok (.iconst 1, 1) := by decide +kernel
theorem dX2_addTune_86 : decode cX2_addTune 86 = .ok (.goto 4, 3) := by decide +kernel
theorem dX2_addTune_89 : decode cX2_addTune 89 = .ok (.iconst 0, 1) := by decide +kernel
theorem dX2_addTune_90 : decode cX2_addTune 90 = .ok (.invokevirtual 70, 3) := by decide +kernel
theorem dX2_addTune_93 : decode cX2_addTune 93 = .ok (.aload_n 0, 1) := by decide +kernel
theorem dX2_addTune_94 : decode cX2_addTune 94 = .ok (.getfield 23, 3) := by decide +kernel
theorem dX2_addTune_97 : decode cX2_addTune 97 = .ok (.iload 7, 2) := by decide +kernel
theorem dX2_addTune_99 : decode cX2_addTune 99 = .ok (.bipush 7, 2) := by decide +kernel
theorem dX2_addTune_101 : decode cX2_addTune 101 = .ok (.iload 6, 2) := by decide +kernel
theorem dX2_addTune_103 : decode cX2_addTune 103 = .ok (.ifCond .eq 7, 3) := by decide +kernel
theorem dX2_addTune_106 : decode cX2_addTune 106 = .ok (.iconst 1, 1) := by decide +kernel
theorem dX2_addTune_107 : decode cX2_addTune 107 = .ok (.goto 4, 3) := by decide +kernel
theorem dX2_addTune_110 : decode cX2_addTune 110 = .ok (.iconst 0, 1) := by decide +kernel
theorem dX2_addTune_111 : decode cX2_addTune 111 = .ok (.invokevirtual 70, 3) := by decide +kernel
theorem dX2_addTune_114 : decode cX2_addTune 114 = .ok (.aload_n 0, 1) := by decide +kernel
theorem dX2_addTune_115 : decode cX2_addTune 115 = .ok (.getfield 23, 3) := by decide +kernel
theorem dX2_addTune_118 : decode cX2_addTune 118 = .ok (.iload 7, 2) := by decide +kernel
theorem dX2_addTune_120 : decode cX2_addTune 120 = .ok (.bipush 8, 2) := by decide +kernel
theorem dX2_addTune_122 : decode cX2_addTune 122 = .ok (.iconst 0, 1) := by decide +kernel
theorem dX2_addTune_123 : decode cX2_addTune 123 = .ok (.invokevirtual 70, 3) := by decide +kernel
theorem dX2_addTune_126 : decode cX2_addTune 126 = .ok (.aload_n 0, 1) := by decide +kernel
theorem dX2_addTune_127 : decode cX2_addTune 127 = .ok (.getfield 23, 3) := by decide +kernel
theorem dX2_addTune_130 : decode cX2_addTune 130 = .ok (.iload 7, 2) := by decide +kernel
theorem dX2_addTune_132 : decode cX2_addTune 132 = .ok (.bipush 9, 2) := by decide +kernel
theorem dX2_addTune_134 : decode cX2_addTune 134 = .ok (.iload 4, 2) := by decide +kernel
theorem dX2_addTune_136 : decode cX2_addTune 136 = .ok (.invokevirtual 70, 3) := by decide +kernel
theorem dX2_addTune_139 : decode cX2_addTune 139 = .ok (.aload_n 0, 1) := by decide +kernel
theorem dX2_addTune_140 : decode cX2_addTune 140 = .ok (.getfield 23, 3) := by decide +kernel
theorem dX2_addTune_143 : decode cX2_addTune 143 = .ok (.iload 7, 2) := by decide +kernel
theorem dX2_addTune_145 : decode cX2_addTune 145 = .ok (.bipush 10, 2) := by decide +kernel
theorem dX2_addTune_147 : decode cX2_addTune 147 = .ok (.iload 4, 2) := by decide +kernel
theorem dX2_addTune_149 : decode cX2_addTune 149 = .ok (.invokevirtual 70, 3) := by decide +kernel
theorem dX2_addTune_152 : decode cX2_addTune 152 = .ok (.aload_n 0, 1) := by decide +kernel
theorem dX2_addTune_153 : decode cX2_addTune 153 = .ok (.getfield 23, 3) := by decide +kernel
theorem dX2_addTune_156 : decode cX2_addTune 156 = .ok (.iload 7, 2) := by decide +kernel
theorem dX2_addTune_158 : decode cX2_addTune 158 = .ok (.bipush 11, 2) := by decide +kernel
theorem dX2_addTune_160 : decode cX2_addTune 160 = .ok (.iconst 0, 1) := by decide +kernel
theorem dX2_addTune_161 : decode cX2_addTune 161 = .ok (.invokevirtual 70, 3) := by decide +kernel
theorem dX2_addTune_164 : decode cX2_addTune 164 = .ok (.aload_n 0, 1) := by decide +kernel
theorem dX2_addTune_165 : decode cX2_addTune 165 = .ok (.getfield 23, 3) := by decide +kernel
theorem dX2_addTune_168 : decode cX2_addTune 168 = .ok (.iload 7, 2) := by decide +kernel
theorem dX2_addTune_170 : decode cX2_addTune 170 = .ok (.bipush 12, 2) := by decide +kernel
theorem dX2_addTune_172 : decode cX2_addTune 172 = .ok (.iconst 0, 1) := by decide +kernel
theorem dX2_addTune_173 : decode cX2_addTune 173 = .ok (.invokevirtual 70, 3) := by decide +kernel
theorem dX2_addTune_176 : decode cX2_addTune 176 = .ok (.aload_n 0, 1) := by decide +kernel
theorem dX2_addTune_177 : decode cX2_addTune 177 = .ok (.dup, 1) := by decide +kernel
theorem dX2_addTune_178 : decode cX2_addTune 178 = .ok (.getfield 49, 3) := by decide +kernel
theorem dX2_addTune_181 : decode cX2_addTune 181 = .ok (.iconst 1, 1) := by decide +kernel
theorem dX2_addTune_182 : decode cX2_addTune 182 = .ok (.iadd, 1) := by decide +kernel
theorem dX2_addTune_183 : decode cX2_addTune 183 = .ok (.putfield 49, 3) := by decide +kernel
theorem dX2_addTune_186 : decode cX2_addTune 186 = .ok (.aload_n 0, 1) := by decide +kernel
theorem dX2_addTune_187 : decode cX2_addTune 187 = .ok (.iconst 1, 1) := by decide +kernel
theorem dX2_addTune_188 : decode cX2_addTune 188 = .ok (.iconst 1, 1) := by decide +kernel
theorem dX2_addTune_189 : decode cX2_addTune 189 = .ok (.invokevirtual 77, 3) := by decide +kernel
theorem dX2_addTune_192 : decode cX2_addTune 192 = .ok (.iload 7, 2) := by decide +kernel
theorem dX2_addTune_194 : decode cX2_addTune 194 = .ok (.ireturn, 1) := by decide +kernel
theorem dX2_hasTimeFor_0 : decode cX2_hasTimeFor 0 = .ok (.aload_n 0, 1) := by decide +kernel
theorem dX2_hasTimeFor_1 : decode cX2_hasTimeFor 1 = .ok (.getfield 39, 3) := by decide +kernel
theorem dX2_hasTimeFor_4 : decode cX2_hasTimeFor 4 = .ok (.iload_n 1, 1) := by decide +kernel
theorem dX2_hasTimeFor_5 : decode cX2_hasTimeFor 5 = .ok (.iadd, 1) := by decide +kernel
theorem dX2_hasTimeFor_6 : decode cX2_hasTimeFor 6 = .ok (.sipush 9999, 3) := by decide +kernel
theorem dX2_hasTimeFor_9 : decode cX2_hasTimeFor 9 = .ok (.if_icmp .gt 7, 3) := by decide +kernel
theorem dX2_hasTimeFor_12 : decode cX2_hasTimeFor 12 = .ok (.iconst 1, 1) := by decide +kernel
theorem dX2_hasTimeFor_13 : decode cX2_hasTimeFor 13 = .ok (.goto 4, 3) := by decide +kernel
theorem dX2_hasTimeFor_16 : decode cX2_hasTimeFor 16 = .ok (.iconst 0, 1) := by decide +kernel
theorem dX2_hasTimeFor_17 : decode cX2_hasTimeFor 17 = .ok (.ireturn, 1) := by decide +kernel
theorem dX2_hasRoomFor_0 : decode cX2_hasRoomFor 0 = .ok (.aload_n 0, 1) := by decide +kernel
theorem dX2_hasRoomFor_1 : decode cX2_hasRoomFor 1 = .ok (.getfield 16, 3) := by decide +kernel
theorem dX2_hasRoomFor_4 : decode cX2_hasRoomFor 4 = .ok (.iload_n 1, 1) := by decide +kernel
theorem dX2_hasRoomFor_5 : decode cX2_hasRoomFor 5 = .ok (.iconst 3, 1) := by decide +kernel
theorem dX2_hasRoomFor_6 : decode cX2_hasRoomFor 6 = .ok (.invokevirtual 66, 3) := by decide +kernel
theorem dX2_hasRoomFor_9 : decode cX2_hasRoomFor 9 = .ok (.iload_n 2, 1) := by decide +kernel
theorem dX2_hasRoomFor_10 : decode cX2_hasRoomFor 10 = .ok (.iadd, 1) := by decide +kernel
theorem dX2_hasRoomFor_11 : decode cX2_hasRoomFor 11 = .ok (.sipush 9999, 3) := by decide +kernel
theorem dX2_hasRoomFor_14 : decode cX2_hasRoomFor 14 = .ok (.if_icmp .gt 7, 3) := by decide +kernel
theorem dX2_hasRoomFor_17 : decode cX2_hasRoomFor 17 = .ok (.iconst 1, 1) := by decide +kernel
theorem dX2_hasRoomFor_18 : decode cX2_hasRoomFor 18 = .ok (.goto 4, 3) := by decide +kernel
theorem dX2_hasRoomFor_21 : decode cX2_hasRoomFor 21 = .ok (.iconst 0, 1) := by decide +kernel
theorem dX2_hasRoomFor_22 : decode cX2_hasRoomFor 22 = .ok (.ireturn, 1) := by decide +kernel
theorem dX2_takeCoins_0 : decode cX2_takeCoins 0 = .ok (.aload_n 0, 1) := by decide +kernel
theorem dX2_takeCoins_1 : decode cX2_takeCoins 1 = .ok (.getfield 16, 3) := by decide +kernel
theorem dX2_takeCoins_4 : decode cX2_takeCoins 4 = .ok (.iload_n 1, 1) := by decide +kernel
theorem dX2_takeCoins_5 : decode cX2_takeCoins 5 = .ok (.iconst 3, 1) := by decide +kernel
theorem dX2_takeCoins_6 : decode cX2_takeCoins 6 = .ok (.iload_n 2, 1) := by decide +kernel
theorem dX2_takeCoins_7 : decode cX2_takeCoins 7 = .ok (.invokevirtual 74, 3) := by decide +kernel
theorem dX2_takeCoins_10 : decode cX2_takeCoins 10 = .ok (.aload_n 0, 1) := by decide +kernel
theorem dX2_takeCoins_11 : decode cX2_takeCoins 11 = .ok (.bipush 10, 2) := by decide +kernel
theorem dX2_takeCoins_13 : decode cX2_takeCoins 13 = .ok (.iload_n 2, 1) := by decide +kernel
theorem dX2_takeCoins_14 : decode cX2_takeCoins 14 = .ok (.invokevirtual 77, 3) := by decide +kernel
theorem dX2_takeCoins_17 : decode cX2_takeCoins 17 = .ok (.return_, 1) := by decide +kernel
theorem dX2_cutWay_0 : decode cX2_cutWay 0 = .ok (.aload_n 0, 1) := by decide +kernel
theorem dX2_cutWay_1 : decode cX2_cutWay 1 = .ok (.iload_n 1, 1) := by decide +kernel
theorem dX2_cutWay_2 : decode cX2_cutWay 2 = .ok (.iload_n 2, 1) := by decide +kernel
theorem dX2_cutWay_3 : decode cX2_cutWay 3 = .ok (.invokevirtual 80, 3) := by decide +kernel
theorem dX2_cutWay_6 : decode cX2_cutWay 6 = .ok (.istore_n 3, 1) := by decide +kernel
theorem dX2_cutWay_7 : decode cX2_cutWay 7 = .ok (.iload_n 3, 1) := by decide +kernel
theorem dX2_cutWay_8 : decode cX2_cutWay 8 = .ok (.iconst (-1), 1) := by decide +kernel
theorem dX2_cutWay_9 : decode cX2_cutWay 9 = .ok (.if_icmp .ne 5, 3) := by decide +kernel
theorem dX2_cutWay_12 : decode cX2_cutWay 12 = .ok (.iconst 0, 1) := by decide +kernel
theorem dX2_cutWay_13 : decode cX2_cutWay 13 = .ok (.ireturn, 1) := by decide +kernel
theorem dX2_cutWay_14 : decode cX2_cutWay 14 = .ok (.aload_n 0, 1) := by decide +kernel
theorem dX2_cutWay_15 : decode cX2_cutWay 15 = .ok (.getfield 20, 3) := by decide +kernel
theorem dX2_cutWay_18 : decode cX2_cutWay 18 = .ok (.iload_n 3, 1) := by decide +kernel
theorem dX2_cutWay_19 : decode cX2_cutWay 19 = .ok (.invokevirtual 83, 3) := by decide +kernel
theorem dX2_cutWay_22 : decode cX2_cutWay 22 = .ok (.aload_n 0, 1) := by decide +kernel
theorem dX2_cutWay_23 : decode cX2_cutWay 23 = .ok (.dup, 1) := by decide +kernel
theorem dX2_cutWay_24 : decode cX2_cutWay 24 = .ok (.getfield 46, 3) := by decide +kernel
theorem dX2_cutWay_27 : decode cX2_cutWay 27 = .ok (.iconst 1, 1) := by decide +kernel
theorem dX2_cutWay_28 : decode cX2_cutWay 28 = .ok (.isub, 1) := by decide +kernel
theorem dX2_cutWay_29 : decode cX2_cutWay 29 = .ok (.putfield 46, 3) := by decide +kernel
theorem dX2_cutWay_32 : decode cX2_cutWay 32 = .ok (.aload_n 0, 1) := by decide +kernel
theorem dX2_cutWay_33 : decode cX2_cutWay 33 = .ok (.getfield 35, 3) := by decide +kernel
theorem dX2_cutWay_36 : decode cX2_cutWay 36 = .ok (.aload_n 0, 1) := by decide +kernel
theorem dX2_cutWay_37 : decode cX2_cutWay 37 = .ok (.invokevirtual 86, 3) := by decide +kernel
theorem dX2_cutWay_40 : decode cX2_cutWay 40 = .ok (.iconst 1, 1) := by decide +kernel
theorem dX2_cutWay_41 : decode cX2_cutWay 41 = .ok (.ireturn, 1) := by decide +kernel
theorem dX2_roofNamed_0 : decode cX2_roofNamed 0 = .ok (.iconst 0, 1) := by decide +kernel
theorem dX2_roofNamed_1 : decode cX2_roofNamed 1 = .ok (.istore_n 2, 1) := by decide +kernel
theorem dX2_roofNamed_2 : decode cX2_roofNamed 2 = .ok (.iload_n 2, 1) := by decide +kernel
theorem dX2_roofNamed_3 : decode cX2_roofNamed 3 = .ok (.aload_n 0, 1) := by decide +kernel
theorem dX2_roofNamed_4 : decode cX2_roofNamed 4 = .ok (.getfield 43, 3) := by decide +kernel
theorem dX2_roofNamed_7 : decode cX2_roofNamed 7 = .ok (.if_icmp .ge 24, 3) := by decide +kernel
theorem dX2_roofNamed_10 : decode cX2_roofNamed 10 = .ok (.aload_n 0, 1) := by decide +kernel
theorem dX2_roofNamed_11 : decode cX2_roofNamed 11 = .ok (.getfield 16, 3) := by decide +kernel
theorem dX2_roofNamed_14 : decode cX2_roofNamed 14 = .ok (.iload_n 2, 1) := by decide +kernel
theorem dX2_roofNamed_15 : decode cX2_roofNamed 15 = .ok (.iconst 5, 1) := by decide +kernel
theorem dX2_roofNamed_16 : decode cX2_roofNamed 16 = .ok (.invokevirtual 66, 3) := by decide +kernel
theorem dX2_roofNamed_19 : decode cX2_roofNamed 19 = .ok (.iload_n 1, 1) := by decide +kernel
theorem dX2_roofNamed_20 : decode cX2_roofNamed 20 = .ok (.if_icmp .ne 5, 3) := by decide +kernel
theorem dX2_roofNamed_23 : decode cX2_roofNamed 23 = .ok (.iload_n 2, 1) := by decide +kernel
theorem dX2_roofNamed_24 : decode cX2_roofNamed 24 = .ok (.ireturn, 1) := by decide +kernel
theorem dX2_roofNamed_25 : decode cX2_roofNamed 25 = .ok (.iinc 2 1, 3) := by decide +kernel
theorem dX2_roofNamed_28 : decode cX2_roofNamed 28 = .ok (.goto (-26), 3) := by decide +kernel
theorem dX2_roofNamed_31 : decode cX2_roofNamed 31 = .ok (.iconst (-1), 1) := by decide +kernel
theorem dX2_roofNamed_32 : decode cX2_roofNamed 32 = .ok (.ireturn, 1) := by decide +kernel
theorem dX2_letterOf_0 : decode cX2_letterOf 0 = .ok (.iload_n 2, 1) := by decide +kernel
theorem dX2_letterOf_1 : decode cX2_letterOf 1 = .ok (.ifCond .lt 9, 3) := by decide +kernel
theorem dX2_letterOf_4 : decode cX2_letterOf 4 = .ok (.iload_n 2, 1) := by decide +kernel
theorem dX2_letterOf_5 : decode cX2_letterOf 5 = .ok (.bipush 6, 2) := by decide +kernel
theorem dX2_letterOf_7 : decode cX2_letterOf 7 = .ok (.if_icmp .lt 5, 3) := by decide +kernel
theorem dX2_letterOf_10 : decode cX2_letterOf 10 = .ok (.iconst (-1), 1) := by decide +kernel
theorem dX2_letterOf_11 : decode cX2_letterOf 11 = .ok (.ireturn, 1) := by decide +kernel
theorem dX2_letterOf_12 : decode cX2_letterOf 12 = .ok (.aload_n 0, 1) := by decide +kernel
theorem dX2_letterOf_13 : decode cX2_letterOf 13 = .ok (.getfield 16, 3) := by decide +kernel
theorem dX2_letterOf_16 : decode cX2_letterOf 16 = .ok (.iload_n 1, 1) := by decide +kernel
theorem dX2_letterOf_17 : decode cX2_letterOf 17 = .ok (.iconst 5, 1) := by decide +kernel
theorem dX2_letterOf_18 : decode cX2_letterOf 18 = .ok (.invokevirtual 66, 3) := by decide +kernel
theorem dX2_letterOf_21 : decode cX2_letterOf 21 = .ok (.iconst 5, 1) := by decide +kernel
theorem dX2_letterOf_22 : decode cX2_letterOf 22 = .ok (.iload_n 2, 1) := by decide +kernel
theorem dX2_letterOf_23 : decode cX2_letterOf 23 = .ok (.imul, 1) := by decide +kernel
theorem dX2_letterOf_24 : decode cX2_letterOf 24 = .ok (.ishr, 1) := by decide +kernel
theorem dX2_letterOf_25 : decode cX2_letterOf 25 = .ok (.bipush 31, 2) := by decide +kernel
theorem dX2_letterOf_27 : decode cX2_letterOf 27 = .ok (.iand, 1) := by decide +kernel
theorem dX2_letterOf_28 : decode cX2_letterOf 28 = .ok (.istore_n 3, 1) := by decide +kernel
theorem dX2_letterOf_29 : decode cX2_letterOf 29 = .ok (.iload_n 3, 1) := by decide +kernel
theorem dX2_letterOf_30 : decode cX2_letterOf 30 = .ok (.ifCond .ne 7, 3) := by decide +kernel
theorem dX2_letterOf_33 : decode cX2_letterOf 33 = .ok (.iconst (-1), 1) := by decide +kernel
theorem dX2_letterOf_34 : decode cX2_letterOf 34 = .ok (.goto 7, 3) := by decide +kernel
theorem dX2_letterOf_37 : decode cX2_letterOf 37 = .ok (.bipush 96, 2) := by decide +kernel
theorem dX2_letterOf_39 : decode cX2_letterOf 39 = .ok (.iload_n 3, 1) := by decide +kernel
theorem dX2_letterOf_40 : decode cX2_letterOf 40 = .ok (.iadd, 1) := by decide +kernel
theorem dX2_letterOf_41 : decode cX2_letterOf 41 = .ok (.ireturn, 1) := by decide +kernel
theorem dX2_acrossFrom_0 : decode cX2_acrossFrom 0 = .ok (.aload_n 0, 1) := by decide +kernel
theorem dX2_acrossFrom_1 : decode cX2_acrossFrom 1 = .ok (.getfield 20, 3) := by decide +kernel
theorem dX2_acrossFrom_4 : decode cX2_acrossFrom 4 = .ok (.iload_n 2, 1) := by decide +kernel
theorem dX2_acrossFrom_5 : decode cX2_acrossFrom 5 = .ok (.iconst 0, 1) := by decide +kernel
theorem dX2_acrossFrom_6 : decode cX2_acrossFrom 6 = .ok (.invokevirtual 66, 3) := by decide +kernel
theorem dX2_acrossFrom_9 : decode cX2_acrossFrom 9 = .ok (.istore_n 3, 1) := by decide +kernel
theorem dX2_acrossFrom_10 : decode cX2_acrossFrom 10 = .ok (.aload_n 0, 1) := by decide +kernel
theorem dX2_acrossFrom_11 : decode cX2_acrossFrom 11 = .ok (.getfield 20, 3) := by decide +kernel
theorem dX2_acrossFrom_14 : decode cX2_acrossFrom 14 = .ok (.iload_n 2, 1) := by decide +kernel
theorem dX2_acrossFrom_15 : decode cX2_acrossFrom 15 = .ok (.iconst 1, 1) := by decide +kernel
theorem dX2_acrossFrom_16 : decode cX2_acrossFrom 16 = .ok (.invokevirtual 66, 3) := by decide +kernel
theorem dX2_acrossFrom_19 : decode cX2_acrossFrom 19 = .ok (.istore 4, 2) := by decide +kernel
theorem dX2_acrossFrom_21 : decode cX2_acrossFrom 21 = .ok (.iload_n 3, 1) := by decide +kernel
theorem dX2_acrossFrom_22 : decode cX2_acrossFrom 22 = .ok (.iload_n 1, 1) := by decide +kernel
theorem dX2_acrossFrom_23 : decode cX2_acrossFrom 23 = .ok (.if_icmp .ne 6, 3) := by decide +kernel
theorem dX2_acrossFrom_26 : decode cX2_acrossFrom 26 = .ok (.iload 4, 2) := by decide +kernel
theorem dX2_acrossFrom_28 : decode cX2_acrossFrom 28 = .ok (.ireturn, 1) := by decide +kernel
theorem dX2_acrossFrom_29 : decode cX2_acrossFrom 29 = .ok (.iload 4, 2) := by decide +kernel
theorem dX2_acrossFrom_31 : decode cX2_acrossFrom 31 = .ok (.iload_n 1, 1) := by decide +kernel
theorem dX2_acrossFrom_32 : decode cX2_acrossFrom 32 = .ok (.if_icmp .ne 7, 3) := by decide +kernel
theorem dX2_acrossFrom_35 : decode cX2_acrossFrom 35 = .ok (.iload_n 3, 1) := by decide +kernel
theorem dX2_acrossFrom_36 : decode cX2_acrossFrom 36 = .ok (.goto 4, 3) := by decide +kernel
theorem dX2_acrossFrom_39 : decode cX2_acrossFrom 39 = .ok (.iconst (-1), 1) := by decide +kernel
theorem dX2_acrossFrom_40 : decode cX2_acrossFrom 40 = .ok (.ireturn, 1) := by decide +kernel
theorem dX2_wayBetween_0 : decode cX2_wayBetween 0 = .ok (.iconst 0, 1) := by decide +kernel
theorem dX2_wayBetween_1 : decode cX2_wayBetween 1 = .ok (.istore_n 3, 1) := by decide +kernel
theorem dX2_wayBetween_2 : decode cX2_wayBetween 2 = .ok (.iload_n 3, 1) := by decide +kernel
theorem dX2_wayBetween_3 : decode cX2_wayBetween 3 = .ok (.aload_n 0, 1) := by decide +kernel
theorem dX2_wayBetween_4 : decode cX2_wayBetween 4 = .ok (.getfield 46, 3) := by decide +kernel
theorem dX2_wayBetween_7 : decode cX2_wayBetween 7 = .ok (.if_icmp .ge 21, 3) := by decide +kernel
theorem dX2_wayBetween_10 : decode cX2_wayBetween 10 = .ok (.aload_n 0, 1) := by decide +kernel
theorem dX2_wayBetween_11 : decode cX2_wayBetween 11 = .ok (.iload_n 1, 1) := by decide +kernel
theorem dX2_wayBetween_12 : decode cX2_wayBetween 12 = .ok (.iload_n 3, 1) := by decide +kernel
theorem dX2_wayBetween_13 : decode cX2_wayBetween 13 = .ok (.invokevirtual 92, 3) := by decide +kernel
theorem dX2_wayBetween_16 : decode cX2_wayBetween 16 = .ok (.iload_n 2, 1) := by decide +kernel
theorem dX2_wayBetween_17 : decode cX2_wayBetween 17 = .ok (.if_icmp .ne 5, 3) := by decide +kernel
theorem dX2_wayBetween_20 : decode cX2_wayBetween 20 = .ok (.iload_n 3, 1) := by decide +kernel
theorem dX2_wayBetween_21 : decode cX2_wayBetween 21 = .ok (.ireturn, 1) := by decide +kernel
theorem dX2_wayBetween_22 : decode cX2_wayBetween 22 = .ok (.iinc 3 1, 3) := by decide +kernel
theorem dX2_wayBetween_25 : decode cX2_wayBetween 25 = .ok (.goto (-23), 3) := by decide +kernel
theorem dX2_wayBetween_28 : decode cX2_wayBetween 28 = .ok (.iconst (-1), 1) := by decide +kernel
theorem dX2_wayBetween_29 : decode cX2_wayBetween 29 = .ok (.ireturn, 1) := by decide +kernel
theorem dX2_numberOfAll_0 : decode cX2_numberOfAll 0 = .ok (.iload_n 1, 1) := by decide +kernel
theorem dX2_numberOfAll_1 : decode cX2_numberOfAll 1 = .ok (.tableswitch 105 0 12 #[67, 72, 77, 82, 82, 82, 82, 90, 105, 105, 105, 95, 100], 67) := by decide +kernel
theorem dX2_numberOfAll_68 : decode cX2_numberOfAll 68 = .ok (.aload_n 0, 1) := by decide +kernel
theorem dX2_numberOfAll_69 : decode cX2_numberOfAll 69 = .ok (.getfield 43, 3) := by decide +kernel
theorem dX2_numberOfAll_72 : decode cX2_numberOfAll 72 = .ok (.ireturn, 1) := by decide +kernel
theorem dX2_numberOfAll_73 : decode cX2_numberOfAll 73 = .ok (.aload_n 0, 1) := by decide +kernel
theorem dX2_numberOfAll_74 : decode cX2_numberOfAll 74 = .ok (.getfield 46, 3) := by decide +kernel
theorem dX2_numberOfAll_77 : decode cX2_numberOfAll 77 = .ok (.ireturn, 1) := by decide +kernel
theorem dX2_numberOfAll_78 : decode cX2_numberOfAll 78 = .ok (.aload_n 0, 1) := by decide +kernel
theorem dX2_numberOfAll_79 : decode cX2_numberOfAll 79 = .ok (.getfield 49, 3) := by decide +kernel
theorem dX2_numberOfAll_82 : decode cX2_numberOfAll 82 = .ok (.ireturn, 1) := by decide +kernel
theorem dX2_numberOfAll_83 : decode cX2_numberOfAll 83 = .ok (.aload_n 0, 1) := by decide +kernel
theorem dX2_numberOfAll_84 : decode cX2_numberOfAll 84 = .ok (.iload_n 1, 1) := by decide +kernel
theorem dX2_numberOfAll_85 : decode cX2_numberOfAll 85 = .ok (.iconst 3, 1) := by decide +kernel
theorem dX2_numberOfAll_86 : decode cX2_numberOfAll 86 = .ok (.isub, 1) := by decide +kernel
theorem dX2_numberOfAll_87 : decode cX2_numberOfAll 87 = .ok (.invokevirtual 95, 3) := by decide +kernel
theorem dX2_numberOfAll_90 : decode cX2_numberOfAll 90 = .ok (.ireturn, 1) := by decide +kernel
theorem dX2_numberOfAll_91 : decode cX2_numberOfAll 91 = .ok (.aload_n 0, 1) := by decide +kernel
theorem dX2_numberOfAll_92 : decode cX2_numberOfAll 92 = .ok (.getfield 39, 3) := by decide +kernel
theorem dX2_numberOfAll_95 : decode cX2_numberOfAll 95 = .ok (.ireturn, 1) := by decide +kernel
theorem dX2_numberOfAll_96 : decode cX2_numberOfAll 96 = .ok (.aload_n 0, 1) := by decide +kernel
theorem dX2_numberOfAll_97 : decode cX2_numberOfAll 97 = .ok (.invokevirtual 99, 3) := by decide +kernel
theorem dX2_numberOfAll_100 : decode cX2_numberOfAll 100 = .ok (.ireturn, 1) := by decide +kernel
theorem dX2_numberOfAll_101 : decode cX2_numberOfAll 101 = .ok (.aload_n 0, 1) := by decide +kernel
theorem dX2_numberOfAll_102 : decode cX2_numberOfAll 102 = .ok (.invokevirtual 103, 3) := by decide +kernel
theorem dX2_numberOfAll_105 : decode cX2_numberOfAll 105 = .ok (.ireturn, 1) := by decide +kernel
theorem dX2_numberOfAll_106 : decode cX2_numberOfAll 106 = .ok (.aload_n 0, 1) := by decide +kernel
theorem dX2_numberOfAll_107 : decode cX2_numberOfAll 107 = .ok (.iload_n 1, 1) := by decide +kernel
theorem dX2_numberOfAll_108 : decode cX2_numberOfAll 108 = .ok (.invokevirtual 106, 3) := by decide +kernel
theorem dX2_numberOfAll_111 : decode cX2_numberOfAll 111 = .ok (.ireturn, 1) := by decide +kernel
theorem dX2_tunesIn_0 : decode cX2_tunesIn 0 = .ok (.iconst 0, 1) := by decide +kernel
theorem dX2_tunesIn_1 : decode cX2_tunesIn 1 = .ok (.istore_n 2, 1) := by decide +kernel
theorem dX2_tunesIn_2 : decode cX2_tunesIn 2 = .ok (.iconst 0, 1) := by decide +kernel
theorem dX2_tunesIn_3 : decode cX2_tunesIn 3 = .ok (.istore_n 3, 1) := by decide +kernel
theorem dX2_tunesIn_4 : decode cX2_tunesIn 4 = .ok (.iload_n 3, 1) := by decide +kernel
theorem dX2_tunesIn_5 : decode cX2_tunesIn 5 = .ok (.aload_n 0, 1) := by decide +kernel
theorem dX2_tunesIn_6 : decode cX2_tunesIn 6 = .ok (.getfield 49, 3) := by decide +kernel
theorem dX2_tunesIn_9 : decode cX2_tunesIn 9 = .ok (.if_icmp .ge 25, 3) := by decide +kernel
theorem dX2_tunesIn_12 : decode cX2_tunesIn 12 = .ok (.aload_n 0, 1) := by decide +kernel
theorem dX2_tunesIn_13 : decode cX2_tunesIn 13 = .ok (.getfield 23, 3) := by decide +kernel
theorem dX2_tunesIn_16 : decode cX2_tunesIn 16 = .ok (.iload_n 3, 1) := by decide +kernel
theorem dX2_tunesIn_17 : decode cX2_tunesIn 17 = .ok (.iconst 3, 1) := by decide +kernel
theorem dX2_tunesIn_18 : decode cX2_tunesIn 18 = .ok (.invokevirtual 66, 3) := by decide +kernel
theorem dX2_tunesIn_21 : decode cX2_tunesIn 21 = .ok (.iload_n 1, 1) := by decide +kernel
theorem dX2_tunesIn_22 : decode cX2_tunesIn 22 = .ok (.if_icmp .ne 6, 3) := by decide +kernel
theorem dX2_tunesIn_25 : decode cX2_tunesIn 25 = .ok (.iinc 2 1, 3) := by decide +kernel
theorem dX2_tunesIn_28 : decode cX2_tunesIn 28 = .ok (.iinc 3 1, 3) := by decide +kernel
theorem dX2_tunesIn_31 : decode cX2_tunesIn 31 = .ok (.goto (-27), 3) := by decide +kernel
theorem dX2_tunesIn_34 : decode cX2_tunesIn 34 = .ok (.iload_n 2, 1) := by decide +kernel
theorem dX2_tunesIn_35 : decode cX2_tunesIn 35 = .ok (.ireturn, 1) := by decide +kernel
theorem dX2_busyWhistlers_0 : decode cX2_busyWhistlers 0 = .ok (.iconst 0, 1) := by decide +kernel
theorem dX2_busyWhistlers_1 : decode cX2_busyWhistlers 1 = .ok (.istore_n 1, 1) := by decide +kernel
theorem dX2_busyWhistlers_2 : decode cX2_busyWhistlers 2 = .ok (.iconst 0, 1) := by decide +kernel
theorem dX2_busyWhistlers_3 : decode cX2_busyWhistlers 3 = .ok (.istore_n 2, 1) := by decide +kernel
theorem dX2_busyWhistlers_4 : decode cX2_busyWhistlers 4 = .ok (.iload_n 2, 1) := by decide +kernel
theorem dX2_busyWhistlers_5 : decode cX2_busyWhistlers 5 = .ok (.aload_n 0, 1) := by decide +kernel
theorem dX2_busyWhistlers_6 : decode cX2_busyWhistlers 6 = .ok (.getfield 43, 3) := by decide +kernel
theorem dX2_busyWhistlers_9 : decode cX2_busyWhistlers 9 = .ok (.if_icmp .ge 24, 3) := by decide +kernel
theorem dX2_busyWhistlers_12 : decode cX2_busyWhistlers 12 = .ok (.aload_n 0, 1) := by decide +kernel
theorem dX2_busyWhistlers_13 : decode cX2_busyWhistlers 13 = .ok (.iload_n 2, 1) := by decide +kernel
theorem dX2_busyWhistlers_14 : decode cX2_busyWhistlers 14 = .ok (.aload_n 0, 1) := by decide +kernel
theorem dX2_busyWhistlers_15 : decode cX2_busyWhistlers 15 = .ok (.getfield 39, 3) := by decide +kernel
theorem dX2_busyWhistlers_18 : decode cX2_busyWhistlers 18 = .ok (.invokevirtual 109, 3) := by decide +kernel
theorem dX2_busyWhistlers_21 : decode cX2_busyWhistlers 21 = .ok (.ifCond .eq 6, 3) := by decide +kernel
theorem dX2_busyWhistlers_24 : decode cX2_busyWhistlers 24 = .ok (.iinc 1 1, 3) := by decide +kernel
theorem dX2_busyWhistlers_27 : decode cX2_busyWhistlers 27 = .ok (.iinc 2 1, 3) := by decide +kernel
theorem dX2_busyWhistlers_30 : decode cX2_busyWhistlers 30 = .ok (.goto (-26), 3) := by decide +kernel
theorem dX2_busyWhistlers_33 : decode cX2_busyWhistlers 33 = .ok (.iload_n 1, 1) := by decide +kernel
theorem dX2_busyWhistlers_34 : decode cX2_busyWhistlers 34 = .ok (.ireturn, 1) := by decide +kernel
theorem dX2_isBusy_0 : decode cX2_isBusy 0 = .ok (.aload_n 0, 1) := by decide +kernel
theorem dX2_isBusy_1 : decode cX2_isBusy 1 = .ok (.getfield 16, 3) := by decide +kernel
theorem dX2_isBusy_4 : decode cX2_isBusy 4 = .ok (.iload_n 1, 1) := by decide +kernel
theorem dX2_isBusy_5 : decode cX2_isBusy 5 = .ok (.iconst 4, 1) := by decide +kernel
theorem dX2_isBusy_6 : decode cX2_isBusy 6 = .ok (.invokevirtual 66, 3) := by decide +kernel
theorem dX2_isBusy_9 : decode cX2_isBusy 9 = .ok (.iload_n 2, 1) := by decide +kernel
theorem dX2_isBusy_10 : decode cX2_isBusy 10 = .ok (.if_icmp .le 7, 3) := by decide +kernel
theorem dX2_isBusy_13 : decode cX2_isBusy 13 = .ok (.iconst 1, 1) := by decide +kernel
theorem dX2_isBusy_14 : decode cX2_isBusy 14 = .ok (.goto 4, 3) := by decide +kernel
theorem dX2_isBusy_17 : decode cX2_isBusy 17 = .ok (.iconst 0, 1) := by decide +kernel
theorem dX2_isBusy_18 : decode cX2_isBusy 18 = .ok (.ireturn, 1) := by decide +kernel
theorem dX2_pursesTogether_0 : decode cX2_pursesTogether 0 = .ok (.iconst 0, 1) := by decide +kernel
theorem dX2_pursesTogether_1 : decode cX2_pursesTogether 1 = .ok (.istore_n 1, 1) := by decide +kernel
theorem dX2_pursesTogether_2 : decode cX2_pursesTogether 2 = .ok (.iconst 0, 1) := by decide +kernel
theorem dX2_pursesTogether_3 : decode cX2_pursesTogether 3 = .ok (.istore_n 2, 1) := by decide +kernel
theorem dX2_pursesTogether_4 : decode cX2_pursesTogether 4 = .ok (.iload_n 2, 1) := by decide +kernel
theorem dX2_pursesTogether_5 : decode cX2_pursesTogether 5 = .ok (.aload_n 0, 1) := by decide +kernel
theorem dX2_pursesTogether_6 : decode cX2_pursesTogether 6 = .ok (.getfield 43, 3) := by decide +kernel
theorem dX2_pursesTogether_9 : decode cX2_pursesTogether 9 = .ok (.if_icmp .ge 21, 3) := by decide +kernel
theorem dX2_pursesTogether_12 : decode cX2_pursesTogether 12 = .ok (.iload_n 1, 1) := by decide +kernel
theorem dX2_pursesTogether_13 : decode cX2_pursesTogether 13 = .ok (.aload_n 0, 1) := by decide +kernel
theorem dX2_pursesTogether_14 : decode cX2_pursesTogether 14 = .ok (.getfield 16, 3) := by decide +kernel
theorem dX2_pursesTogether_17 : decode cX2_pursesTogether 17 = .ok (.iload_n 2, 1) := by decide +kernel
theorem dX2_pursesTogether_18 : decode cX2_pursesTogether 18 = .ok (.iconst 3, 1) := by decide +kernel
theorem dX2_pursesTogether_19 : decode cX2_pursesTogether 19 = .ok (.invokevirtual 66, 3) := by decide +kernel
theorem dX2_pursesTogether_22 : decode cX2_pursesTogether 22 = .ok (.iadd, 1) := by decide +kernel
theorem dX2_pursesTogether_23 : decode cX2_pursesTogether 23 = .ok (.istore_n 1, 1) := by decide +kernel
theorem dX2_pursesTogether_24 : decode cX2_pursesTogether 24 = .ok (.iinc 2 1, 3) := by decide +kernel
theorem dX2_pursesTogether_27 : decode cX2_pursesTogether 27 = .ok (.goto (-23), 3) := by decide +kernel
theorem dX2_pursesTogether_30 : decode cX2_pursesTogether 30 = .ok (.iload_n 1, 1) := by decide +kernel
theorem dX2_pursesTogether_31 : decode cX2_pursesTogether 31 = .ok (.ireturn, 1) := by decide +kernel
theorem dX2_numberOfRoof_0 : decode cX2_numberOfRoof 0 = .ok (.iload_n 2, 1) := by decide +kernel
theorem dX2_numberOfRoof_1 : decode cX2_numberOfRoof 1 = .ok (.tableswitch 58 4 6 #[27, 46, 52], 27) := by decide +kernel
theorem dX2_numberOfRoof_28 : decode cX2_numberOfRoof 28 = .ok (.iconst 0, 1) := by decide +kernel
theorem dX2_numberOfRoof_29 : decode cX2_numberOfRoof 29 = .ok (.aload_n 0, 1) := by decide +kernel
theorem dX2_numberOfRoof_30 : decode cX2_numberOfRoof 30 = .ok (.getfield 16, 3) := by decide +kernel
theorem dX2_numberOfRoof_33 : decode cX2_numberOfRoof 33 = .ok (.iload_n 1, 1) := by decide +kernel
theorem dX2_numberOfRoof_34 : decode cX2_numberOfRoof 34 = .ok (.iconst 4, 1) := by decide +kernel
theorem dX2_numberOfRoof_35 : decode cX2_numberOfRoof 35 = .ok (.invokevirtual 66, 3) := by decide +kernel
theorem dX2_numberOfRoof_38 : decode cX2_numberOfRoof 38 = .ok (.aload_n 0, 1) := by decide +kernel
theorem dX2_numberOfRoof_39 : decode cX2_numberOfRoof 39 = .ok (.getfield 39, 3) := by decide +kernel
theorem dX2_numberOfRoof_42 : decode cX2_numberOfRoof 42 = .ok (.isub, 1) := by decide +kernel
theorem dX2_numberOfRoof_43 : decode cX2_numberOfRoof 43 = .ok (.invokestatic 113, 3) := by decide +kernel
theorem dX2_numberOfRoof_46 : decode cX2_numberOfRoof 46 = .ok (.ireturn, 1) := by decide +kernel
theorem dX2_numberOfRoof_47 : decode cX2_numberOfRoof 47 = .ok (.aload_n 0, 1) := by decide +kernel
theorem dX2_numberOfRoof_48 : decode cX2_numberOfRoof 48 = .ok (.iload_n 1, 1) := by decide +kernel
theorem dX2_numberOfRoof_49 : decode cX2_numberOfRoof 49 = .ok (.invokevirtual 118, 3) := by decide +kernel
theorem dX2_numberOfRoof_52 : decode cX2_numberOfRoof 52 = .ok (.ireturn, 1) := by decide +kernel
theorem dX2_numberOfRoof_53 : decode cX2_numberOfRoof 53 = .ok (.aload_n 0, 1) := by decide +kernel
theorem dX2_numberOfRoof_54 : decode cX2_numberOfRoof 54 = .ok (.iload_n 1, 1) := by decide +kernel
theorem dX2_numberOfRoof_55 : decode cX2_numberOfRoof 55 = .ok (.invokevirtual 121, 3) := by decide +kernel
theorem dX2_numberOfRoof_58 : decode cX2_numberOfRoof 58 = .ok (.ireturn, 1) := by decide +kernel
theorem dX2_numberOfRoof_59 : decode cX2_numberOfRoof 59 = .ok (.aload_n 0, 1) := by decide +kernel
theorem dX2_numberOfRoof_60 : decode cX2_numberOfRoof 60 = .ok (.getfield 16, 3) := by decide +kernel
theorem dX2_numberOfRoof_63 : decode cX2_numberOfRoof 63 = .ok (.iload_n 1, 1) := by decide +kernel
theorem dX2_numberOfRoof_64 : decode cX2_numberOfRoof 64 = .ok (.iload_n 2, 1) := by decide +kernel
theorem dX2_numberOfRoof_65 : decode cX2_numberOfRoof 65 = .ok (.invokevirtual 66, 3) := by decide +kernel
theorem dX2_numberOfRoof_68 : decode cX2_numberOfRoof 68 = .ok (.ireturn, 1) := by decide +kernel
theorem dX2_tunesAt_0 : decode cX2_tunesAt 0 = .ok (.iconst 0, 1) := by decide +kernel
theorem dX2_tunesAt_1 : decode cX2_tunesAt 1 = .ok (.istore_n 2, 1) := by decide +kernel
theorem dX2_tunesAt_2 : decode cX2_tunesAt 2 = .ok (.iconst 0, 1) := by decide +kernel
theorem dX2_tunesAt_3 : decode cX2_tunesAt 3 = .ok (.istore_n 3, 1) := by decide +kernel
theorem dX2_tunesAt_4 : decode cX2_tunesAt 4 = .ok (.iload_n 3, 1) := by decide +kernel
theorem dX2_tunesAt_5 : decode cX2_tunesAt 5 = .ok (.aload_n 0, 1) := by decide +kernel
theorem dX2_tunesAt_6 : decode cX2_tunesAt 6 = .ok (.getfield 49, 3) := by decide +kernel
theorem dX2_tunesAt_9 : decode cX2_tunesAt 9 = .ok (.if_icmp .ge 21, 3) := by decide +kernel
theorem dX2_tunesAt_12 : decode cX2_tunesAt 12 = .ok (.aload_n 0, 1) := by decide +kernel
theorem dX2_tunesAt_13 : decode cX2_tunesAt 13 = .ok (.iload_n 3, 1) := by decide +kernel
theorem dX2_tunesAt_14 : decode cX2_tunesAt 14 = .ok (.iload_n 1, 1) := by decide +kernel
theorem dX2_tunesAt_15 : decode cX2_tunesAt 15 = .ok (.invokevirtual 124, 3) := by decide +kernel
theorem dX2_tunesAt_18 : decode cX2_tunesAt 18 = .ok (.ifCond .eq 6, 3) := by decide +kernel
theorem dX2_tunesAt_21 : decode cX2_tunesAt 21 = .ok (.iinc 2 1, 3) := by decide +kernel
theorem dX2_tunesAt_24 : decode cX2_tunesAt 24 = .ok (.iinc 3 1, 3) := by decide +kernel
theorem dX2_tunesAt_27 : decode cX2_tunesAt 27 = .ok (.goto (-23), 3) := by decide +kernel
theorem dX2_tunesAt_30 : decode cX2_tunesAt 30 = .ok (.iload_n 2, 1) := by decide +kernel
theorem dX2_tunesAt_31 : decode cX2_tunesAt 31 = .ok (.ireturn, 1) := by decide +kernel
theorem dX2_waysAt_0 : decode cX2_waysAt 0 = .ok (.iconst 0, 1) := by decide +kernel
theorem dX2_waysAt_1 : decode cX2_waysAt 1 = .ok (.istore_n 2, 1) := by decide +kernel
theorem dX2_waysAt_2 : decode cX2_waysAt 2 = .ok (.iconst 0, 1) := by decide +kernel
theorem dX2_waysAt_3 : decode cX2_waysAt 3 = .ok (.istore_n 3, 1) := by decide +kernel
theorem dX2_waysAt_4 : decode cX2_waysAt 4 = .ok (.iload_n 3, 1) := by decide +kernel
theorem dX2_waysAt_5 : decode cX2_waysAt 5 = .ok (.aload_n 0, 1) := by decide +kernel
theorem dX2_waysAt_6 : decode cX2_waysAt 6 = .ok (.getfield 46, 3) := by decide +kernel
theorem dX2_waysAt_9 : decode cX2_waysAt 9 = .ok (.if_icmp .ge 22, 3) := by decide +kernel
theorem dX2_waysAt_12 : decode cX2_waysAt 12 = .ok (.aload_n 0, 1) := by decide +kernel
theorem dX2_waysAt_13 : decode cX2_waysAt 13 = .ok (.iload_n 1, 1) := by decide +kernel
theorem dX2_waysAt_14 : decode cX2_waysAt 14 = .ok (.iload_n 3, 1) := by decide +kernel
theorem dX2_waysAt_15 : decode cX2_waysAt 15 = .ok (.invokevirtual 92, 3) := by decide +kernel
theorem dX2_waysAt_18 : decode cX2_waysAt 18 = .ok (.iconst (-1), 1) := by decide +kernel
theorem dX2_waysAt_19 : decode cX2_waysAt 19 = .ok (.if_icmp .eq 6, 3) := by decide +kernel
theorem dX2_waysAt_22 : decode cX2_waysAt 22 = .ok (.iinc 2 1, 3) := by decide +kernel
theorem dX2_waysAt_25 : decode cX2_waysAt 25 = .ok (.iinc 3 1, 3) := by decide +kernel
theorem dX2_waysAt_28 : decode cX2_waysAt 28 = .ok (.goto (-24), 3) := by decide +kernel
theorem dX2_waysAt_31 : decode cX2_waysAt 31 = .ok (.iload_n 2, 1) := by decide +kernel
theorem dX2_waysAt_32 : decode cX2_waysAt 32 = .ok (.ireturn, 1) := by decide +kernel
theorem dX2_isWaitingAt_0 : decode cX2_isWaitingAt 0 = .ok (.aload_n 0, 1) := by decide +kernel
theorem dX2_isWaitingAt_1 : decode cX2_isWaitingAt 1 = .ok (.getfield 23, 3) := by decide +kernel
theorem dX2_isWaitingAt_4 : decode cX2_isWaitingAt 4 = .ok (.iload_n 1, 1) := by decide +kernel
theorem dX2_isWaitingAt_5 : decode cX2_isWaitingAt 5 = .ok (.iconst 3, 1) := by decide +kernel
theorem dX2_isWaitingAt_6 : decode cX2_isWaitingAt 6 = .ok (.invokevirtual 66, 3) := by decide +kernel
theorem dX2_isWaitingAt_9 : decode cX2_isWaitingAt 9 = .ok (.ifCond .ne 20, 3) := by decide +kernel
theorem dX2_isWaitingAt_12 : decode cX2_isWaitingAt 12 = .ok (.aload_n 0, 1) := by decide +kernel
theorem dX2_isWaitingAt_13 : decode cX2_isWaitingAt 13 = .ok (.getfield 23, 3) := by decide +kernel
theorem dX2_isWaitingAt_16 : decode cX2_isWaitingAt 16 = .ok (.iload_n 1, 1) := by decide +kernel
theorem dX2_isWaitingAt_17 : decode cX2_isWaitingAt 17 = .ok (.iconst 4, 1) := by decide +kernel
theorem dX2_isWaitingAt_18 : decode cX2_isWaitingAt 18 = .ok (.invokevirtual 66, 3) := by decide +kernel
theorem dX2_isWaitingAt_21 : decode cX2_isWaitingAt 21 = .ok (.iload_n 2, 1) := by decide +kernel
theorem dX2_isWaitingAt_22 : decode cX2_isWaitingAt 22 = .ok (.if_icmp .ne 7, 3) := by decide +kernel
theorem dX2_isWaitingAt_25 : decode cX2_isWaitingAt 25 = .ok (.iconst 1, 1) := by decide +kernel
theorem dX2_isWaitingAt_26 : decode cX2_isWaitingAt 26 = .ok (.goto 4, 3) := by decide +kernel
theorem dX2_isWaitingAt_29 : decode cX2_isWaitingAt 29 = .ok (.iconst 0, 1) := by decide +kernel
theorem dX2_isWaitingAt_30 : decode cX2_isWaitingAt 30 = .ok (.ireturn, 1) := by decide +kernel
theorem dX2_waitingAt_0 : decode cX2_waitingAt 0 = .ok (.iconst 0, 1) := by decide +kernel
theorem dX2_waitingAt_1 : decode cX2_waitingAt 1 = .ok (.istore_n 3, 1) := by decide +kernel
theorem dX2_waitingAt_2 : decode cX2_waitingAt 2 = .ok (.iconst 2, 1) := by decide +kernel
theorem dX2_waitingAt_3 : decode cX2_waitingAt 3 = .ok (.istore 4, 2) := by decide +kernel
theorem dX2_waitingAt_5 : decode cX2_waitingAt 5 = .ok (.iload 4, 2) := by decide +kernel
theorem dX2_waitingAt_7 : decode cX2_waitingAt 7 = .ok (.ifCond .le 59, 3) := by decide +kernel
theorem dX2_waitingAt_10 : decode cX2_waitingAt 10 = .ok (.iconst 0, 1) := by decide +kernel
theorem dX2_waitingAt_11 : decode cX2_waitingAt 11 = .ok (.istore 5, 2) := by decide +kernel
theorem dX2_waitingAt_13 : decode cX2_waitingAt 13 = .ok (.iload 5, 2) := by decide +kernel
theorem dX2_waitingAt_15 : decode cX2_waitingAt 15 = .ok (.aload_n 0, 1) := by decide +kernel
theorem dX2_waitingAt_16 : decode cX2_waitingAt 16 = .ok (.getfield 49, 3) := by decide +kernel
theorem dX2_waitingAt_19 : decode cX2_waitingAt 19 = .ok (.if_icmp .ge 41, 3) := by decide +kernel
theorem dX2_waitingAt_22 : decode cX2_waitingAt 22 = .ok (.aload_n 0, 1) := by decide +kernel
theorem dX2_waitingAt_23 : decode cX2_waitingAt 23 = .ok (.iload 5, 2) := by decide +kernel
theorem dX2_waitingAt_25 : decode cX2_waitingAt 25 = .ok (.iload_n 1, 1) := by decide +kernel
theorem dX2_waitingAt_26 : decode cX2_waitingAt 26 = .ok (.invokevirtual 124, 3) := by decide +kernel
theorem dX2_waitingAt_29 : decode cX2_waitingAt 29 = .ok (.ifCond .eq 25, 3) := by decide +kernel
theorem dX2_waitingAt_32 : decode cX2_waitingAt 32 = .ok (.aload_n 0, 1) := by decide +kernel
theorem dX2_waitingAt_33 : decode cX2_waitingAt 33 = .ok (.iload 5, 2) := by decide +kernel
theorem dX2_waitingAt_35 : decode cX2_waitingAt 35 = .ok (.invokevirtual 127, 3) := by decide +kernel
theorem dX2_waitingAt_38 : decode cX2_waitingAt 38 = .ok (.iload 4, 2) := by decide +kernel
theorem dX2_waitingAt_40 : decode cX2_waitingAt 40 = .ok (.if_icmp .ne 14, 3) := by decide +kernel
theorem dX2_waitingAt_43 : decode cX2_waitingAt 43 = .ok (.iload_n 3, 1) := by decide +kernel
theorem dX2_waitingAt_44 : decode cX2_waitingAt 44 = .ok (.iload_n 2, 1) := by decide +kernel
theorem dX2_waitingAt_45 : decode cX2_waitingAt 45 = .ok (.if_icmp .ne 6, 3) := by decide +kernel
theorem dX2_waitingAt_48 : decode cX2_waitingAt 48 = .ok (.iload 5, 2) := by decide +kernel
theorem dX2_waitingAt_50 : decode cX2_waitingAt 50 = .ok (.ireturn, 1) := by decide +kernel
theorem dX2_waitingAt_51 : decode cX2_waitingAt 51 = .ok (.iinc 3 1, 3) := by decide +kernel
theorem dX2_waitingAt_54 : decode cX2_waitingAt 54 = .ok (.iinc 5 1, 3) := by decide +kernel
theorem dX2_waitingAt_57 : decode cX2_waitingAt 57 = .ok (.goto (-44), 3) := by decide +kernel
theorem dX2_waitingAt_60 : decode cX2_waitingAt 60 = .ok (.iinc 4 (-1), 3) := by decide +kernel
theorem dX2_waitingAt_63 : decode cX2_waitingAt 63 = .ok (.goto (-58), 3) := by decide +kernel
theorem dX2_waitingAt_66 : decode cX2_waitingAt 66 = .ok (.iconst (-1), 1) := by decide +kernel
theorem dX2_waitingAt_67 : decode cX2_waitingAt 67 = .ok (.ireturn, 1) := by decide +kernel
theorem dX2_numberOfTune_0 : decode cX2_numberOfTune 0 = .ok (.iload_n 2, 1) := by decide +kernel
theorem dX2_numberOfTune_1 : decode cX2_numberOfTune 1 = .ok (.lookupswitch 39 #[(9, 27), (10, 33)], 27) := by decide +kernel
theorem dX2_numberOfTune_28 : decode cX2_numberOfTune 28 = .ok (.aload_n 0, 1) := by decide +kernel
theorem dX2_numberOfTune_29 : decode cX2_numberOfTune 29 = .ok (.iload_n 1, 1) := by decide +kernel
theorem dX2_numberOfTune_30 : decode cX2_numberOfTune 30 = .ok (.invokevirtual 127, 3) := by decide +kernel
theorem dX2_numberOfTune_33 : decode cX2_numberOfTune 33 = .ok (.ireturn, 1) := by decide +kernel
theorem dX2_numberOfTune_34 : decode cX2_numberOfTune 34 = .ok (.aload_n 0, 1) := by decide +kernel
theorem dX2_numberOfTune_35 : decode cX2_numberOfTune 35 = .ok (.iload_n 1, 1) := by decide +kernel
theorem dX2_numberOfTune_36 : decode cX2_numberOfTune 36 = .ok (.invokevirtual 130, 3) := by decide +kernel
theorem dX2_numberOfTune_39 : decode cX2_numberOfTune 39 = .ok (.ireturn, 1) := by decide +kernel
theorem dX2_numberOfTune_40 : decode cX2_numberOfTune 40 = .ok (.aload_n 0, 1) := by decide +kernel
theorem dX2_numberOfTune_41 : decode cX2_numberOfTune 41 = .ok (.getfield 23, 3) := by decide +kernel
theorem dX2_numberOfTune_44 : decode cX2_numberOfTune 44 = .ok (.iload_n 1, 1) := by decide +kernel
theorem dX2_numberOfTune_45 : decode cX2_numberOfTune 45 = .ok (.iload_n 2, 1) := by decide +kernel
theorem dX2_numberOfTune_46 : decode cX2_numberOfTune 46 = .ok (.invokevirtual 66, 3) := by decide +kernel
theorem dX2_numberOfTune_49 : decode cX2_numberOfTune 49 = .ok (.ireturn, 1) := by decide +kernel
theorem dX2_barsOf_0 : decode cX2_barsOf 0 = .ok (.iload_n 0, 1) := by decide +kernel
theorem dX2_barsOf_1 : decode cX2_barsOf 1 = .ok (.iconst 3, 1) := by decide +kernel
theorem dX2_barsOf_2 : decode cX2_barsOf 2 = .ok (.iadd, 1) := by decide +kernel
theorem dX2_barsOf_3 : decode cX2_barsOf 3 = .ok (.iconst 4, 1) := by decide +kernel
theorem dX2_barsOf_4 : decode cX2_barsOf 4 = .ok (.idiv, 1) := by decide +kernel
theorem dX2_barsOf_5 : decode cX2_barsOf 5 = .ok (.ireturn, 1) := by decide +kernel
theorem dX2_barsOfTune_0 : decode cX2_barsOfTune 0 = .ok (.aload_n 0, 1) := by decide +kernel
theorem dX2_barsOfTune_1 : decode cX2_barsOfTune 1 = .ok (.getfield 23, 3) := by decide +kernel
theorem dX2_barsOfTune_4 : decode cX2_barsOfTune 4 = .ok (.iload_n 1, 1) := by decide +kernel
theorem dX2_barsOfTune_5 : decode cX2_barsOfTune 5 = .ok (.iconst 2, 1) := by decide +kernel
theorem dX2_barsOfTune_6 : decode cX2_barsOfTune 6 = .ok (.invokevirtual 66, 3) := by decide +kernel
theorem dX2_barsOfTune_9 : decode cX2_barsOfTune 9 = .ok (.invokestatic 133, 3) := by decide +kernel
theorem dX2_barsOfTune_12 : decode cX2_barsOfTune 12 = .ok (.ireturn, 1) := by decide +kernel
theorem dX2_notesUnlikeSent_0 : decode cX2_notesUnlikeSent 0 = .ok (.iconst 0, 1) := by decide +kernel
theorem dX2_notesUnlikeSent_1 : decode cX2_notesUnlikeSent 1 = .ok (.istore_n 2, 1) := by decide +kernel
theorem dX2_notesUnlikeSent_2 : decode cX2_notesUnlikeSent 2 = .ok (.aload_n 0, 1) := by decide +kernel
theorem dX2_notesUnlikeSent_3 : decode cX2_notesUnlikeSent 3 = .ok (.getfield 23, 3) := by decide +kernel
theorem dX2_notesUnlikeSent_6 : decode cX2_notesUnlikeSent 6 = .ok (.iload_n 1, 1) := by decide +kernel
theorem dX2_notesUnlikeSent_7 : decode cX2_notesUnlikeSent 7 = .ok (.bipush 9, 2) := by decide +kernel
theorem dX2_notesUnlikeSent_9 : decode cX2_notesUnlikeSent 9 = .ok (.invokevirtual 66, 3) := by decide +kernel
theorem dX2_notesUnlikeSent_12 : decode cX2_notesUnlikeSent 12 = .ok (.istore_n 3, 1) := by decide +kernel
theorem dX2_notesUnlikeSent_13 : decode cX2_notesUnlikeSent 13 = .ok (.aload_n 0, 1) := by decide +kernel
theorem dX2_notesUnlikeSent_14 : decode cX2_notesUnlikeSent 14 = .ok (.getfield 23, 3) := by decide +kernel
theorem dX2_notesUnlikeSent_17 : decode cX2_notesUnlikeSent 17 = .ok (.iload_n 1, 1) := by decide +kernel
theorem dX2_notesUnlikeSent_18 : decode cX2_notesUnlikeSent 18 = .ok (.bipush 10, 2) := by decide +kernel
theorem dX2_notesUnlikeSent_20 : decode cX2_notesUnlikeSent 20 = .ok (.invokevirtual 66, 3) := by decide +kernel
theorem dX2_notesUnlikeSent_23 : decode cX2_notesUnlikeSent 23 = .ok (.istore 4, 2) := by decide +kernel
theorem dX2_notesUnlikeSent_25 : decode cX2_notesUnlikeSent 25 = .ok (.iconst 0, 1) := by decide +kernel
theorem dX2_notesUnlikeSent_26 : decode cX2_notesUnlikeSent 26 = .ok (.istore 5, 2) := by decide +kernel
theorem dX2_notesUnlikeSent_28 : decode cX2_notesUnlikeSent 28 = .ok (.iload 5, 2) := by decide +kernel
theorem dX2_notesUnlikeSent_30 : decode cX2_notesUnlikeSent 30 = .ok (.bipush 8, 2) := by decide +kernel
theorem dX2_notesUnlikeSent_32 : decode cX2_notesUnlikeSent 32 = .ok (.if_icmp .ge 28, 3) := by decide +kernel
theorem dX2_notesUnlikeSent_35 : decode cX2_notesUnlikeSent 35 = .ok (.iload_n 3, 1) := by decide +kernel
theorem dX2_notesUnlikeSent_36 : decode cX2_notesUnlikeSent 36 = .ok (.iload 5, 2) := by decide +kernel
theorem dX2_notesUnlikeSent_38 : decode cX2_notesUnlikeSent 38 = .ok (.invokestatic 136, 3) := by decide +kernel
theorem dX2_notesUnlikeSent_41 : decode cX2_notesUnlikeSent 41 = .ok (.iload 4, 2) := by decide +kernel
theorem dX2_notesUnlikeSent_43 : decode cX2_notesUnlikeSent 43 = .ok (.iload 5, 2) := by decide +kernel
theorem dX2_notesUnlikeSent_45 : decode cX2_notesUnlikeSent 45 = .ok (.invokestatic 136, 3) := by decide +kernel
theorem dX2_notesUnlikeSent_48 : decode cX2_notesUnlikeSent 48 = .ok (.if_icmp .eq 6, 3) := by decide +kernel
theorem dX2_notesUnlikeSent_51 : decode cX2_notesUnlikeSent 51 = .ok (.iinc 2 1, 3) := by decide +kernel
theorem dX2_notesUnlikeSent_54 : decode cX2_notesUnlikeSent 54 = .ok (.iinc 5 1, 3) := by decide +kernel
theorem dX2_notesUnlikeSent_57 : decode cX2_notesUnlikeSent 57 = .ok (.goto (-29), 3) := by decide +kernel
theorem dX2_notesUnlikeSent_60 : decode cX2_notesUnlikeSent 60 = .ok (.iload_n 2, 1) := by decide +kernel
theorem dX2_notesUnlikeSent_61 : decode cX2_notesUnlikeSent 61 = .ok (.ireturn, 1) := by decide +kernel
theorem dX2_nextOf_0 : decode cX2_nextOf 0 = .ok (.aload_n 0, 1) := by decide +kernel
theorem dX2_nextOf_1 : decode cX2_nextOf 1 = .ok (.getfield 35, 3) := by decide +kernel
theorem dX2_nextOf_4 : decode cX2_nextOf 4 = .ok (.getfield 139, 3) := by decide +kernel
theorem dX2_nextOf_7 : decode cX2_nextOf 7 = .ok (.aload_n 0, 1) := by decide +kernel
theorem dX2_nextOf_8 : decode cX2_nextOf 8 = .ok (.getfield 23, 3) := by decide +kernel
theorem dX2_nextOf_11 : decode cX2_nextOf 11 = .ok (.iload_n 1, 1) := by decide +kernel
theorem dX2_nextOf_12 : decode cX2_nextOf 12 = .ok (.iconst 4, 1) := by decide +kernel
theorem dX2_nextOf_13 : decode cX2_nextOf 13 = .ok (.invokevirtual 66, 3) := by decide +kernel
theorem dX2_nextOf_16 : decode cX2_nextOf 16 = .ok (.aload_n 0, 1) := by decide +kernel
theorem dX2_nextOf_17 : decode cX2_nextOf 17 = .ok (.getfield 23, 3) := by decide +kernel
theorem dX2_nextOf_20 : decode cX2_nextOf 20 = .ok (.iload_n 1, 1) := by decide +kernel
theorem dX2_nextOf_21 : decode cX2_nextOf 21 = .ok (.iconst 1, 1) := by decide +kernel
theorem dX2_nextOf_22 : decode cX2_nextOf 22 = .ok (.invokevirtual 66, 3) := by decide +kernel
theorem dX2_nextOf_25 : decode cX2_nextOf 25 = .ok (.invokevirtual 66, 3) := by decide +kernel
theorem dX2_nextOf_28 : decode cX2_nextOf 28 = .ok (.ireturn, 1) := by decide +kernel
theorem dX2_lackOf_0 : decode cX2_lackOf 0 = .ok (.aload_n 0, 1) := by decide +kernel
theorem dX2_lackOf_1 : decode cX2_lackOf 1 = .ok (.getfield 16, 3) := by decide +kernel
theorem dX2_lackOf_4 : decode cX2_lackOf 4 = .ok (.aload_n 0, 1) := by decide +kernel
theorem dX2_lackOf_5 : decode cX2_lackOf 5 = .ok (.getfield 23, 3) := by decide +kernel
theorem dX2_lackOf_8 : decode cX2_lackOf 8 = .ok (.iload_n 1, 1) := by decide +kernel
theorem dX2_lackOf_9 : decode cX2_lackOf 9 = .ok (.iconst 4, 1) := by decide +kernel
theorem dX2_lackOf_10 : decode cX2_lackOf 10 = .ok (.invokevirtual 66, 3) := by decide +kernel
theorem dX2_lackOf_13 : decode cX2_lackOf 13 = .ok (.iconst 2, 1) := by decide +kernel
theorem dX2_lackOf_14 : decode cX2_lackOf 14 = .ok (.invokevirtual 66, 3) := by decide +kernel
theorem dX2_lackOf_17 : decode cX2_lackOf 17 = .ok (.aload_n 0, 1) := by decide +kernel
theorem dX2_lackOf_18 : decode cX2_lackOf 18 = .ok (.getfield 23, 3) := by decide +kernel
theorem dX2_lackOf_21 : decode cX2_lackOf 21 = .ok (.iload_n 1, 1) := by decide +kernel
theorem dX2_lackOf_22 : decode cX2_lackOf 22 = .ok (.iconst 2, 1) := by decide +kernel
theorem dX2_lackOf_23 : decode cX2_lackOf 23 = .ok (.invokevirtual 66, 3) := by decide +kernel
theorem dX2_lackOf_26 : decode cX2_lackOf 26 = .ok (.invokestatic 133, 3) := by decide +kernel
theorem dX2_lackOf_29 : decode cX2_lackOf 29 = .ok (.imul, 1) := by decide +kernel
theorem dX2_lackOf_30 : decode cX2_lackOf 30 = .ok (.istore_n 2, 1) := by decide +kernel
theorem dX2_lackOf_31 : decode cX2_lackOf 31 = .ok (.iload_n 2, 1) := by decide +kernel
theorem dX2_lackOf_32 : decode cX2_lackOf 32 = .ok (.aload_n 0, 1) := by decide +kernel
theorem dX2_lackOf_33 : decode cX2_lackOf 33 = .ok (.getfield 16, 3) := by decide +kernel
theorem dX2_lackOf_36 : decode cX2_lackOf 36 = .ok (.aload_n 0, 1) := by decide +kernel
theorem dX2_lackOf_37 : decode cX2_lackOf 37 = .ok (.getfield 23, 3) := by decide +kernel
theorem dX2_lackOf_40 : decode cX2_lackOf 40 = .ok (.iload_n 1, 1) := by decide +kernel
theorem dX2_lackOf_41 : decode cX2_lackOf 41 = .ok (.iconst 0, 1) := by decide +kernel
theorem dX2_lackOf_42 : decode cX2_lackOf 42 = .ok (.invokevirtual 66, 3) := by decide +kernel
theorem dX2_lackOf_45 : decode cX2_lackOf 45 = .ok (.iconst 3, 1) := by decide +kernel
theorem dX2_lackOf_46 : decode cX2_lackOf 46 = .ok (.invokevirtual 66, 3) := by decide +kernel
theorem dX2_lackOf_49 : decode cX2_lackOf 49 = .ok (.isub, 1) := by decide +kernel
theorem dX2_lackOf_50 : decode cX2_lackOf 50 = .ok (.ireturn, 1) := by decide +kernel
theorem dX2_firstToGoFrom_0 : decode cX2_firstToGoFrom 0 = .ok (.iconst (-1), 1) := by decide +kernel
theorem dX2_firstToGoFrom_1 : decode cX2_firstToGoFrom 1 = .ok (.istore_n 2, 1) := by decide +kernel
theorem dX2_firstToGoFrom_2 : decode cX2_firstToGoFrom 2 = .ok (.iconst 0, 1) := by decide +kernel
theorem dX2_firstToGoFrom_3 : decode cX2_firstToGoFrom 3 = .ok (.istore_n 3, 1) := by decide +kernel
theorem dX2_firstToGoFrom_4 : decode cX2_firstToGoFrom 4 = .ok (.iload_n 3, 1) := by decide +kernel
theorem dX2_firstToGoFrom_5 : decode cX2_firstToGoFrom 5 = .ok (.aload_n 0, 1) := by decide +kernel
theorem dX2_firstToGoFrom_6 : decode cX2_firstToGoFrom 6 = .ok (.getfield 49, 3) := by decide +kernel
theorem dX2_firstToGoFrom_9 : decode cX2_firstToGoFrom 9 = .ok (.if_icmp .ge 55, 3) := by decide +kernel
theorem dX2_firstToGoFrom_12 : decode cX2_firstToGoFrom 12 = .ok (.aload_n 0, 1) := by decide +kernel
theorem dX2_firstToGoFrom_13 : decode cX2_firstToGoFrom 13 = .ok (.iload_n 3, 1) := by decide +kernel
theorem dX2_firstToGoFrom_14 : decode cX2_firstToGoFrom 14 = .ok (.iload_n 1, 1) := by decide +kernel
theorem dX2_firstToGoFrom_15 : decode cX2_firstToGoFrom 15 = .ok (.invokevirtual 124, 3) := by decide +kernel
theorem dX2_firstToGoFrom_18 : decode cX2_firstToGoFrom 18 = .ok (.ifCond .eq 40, 3) := by decide +kernel
theorem dX2_firstToGoFrom_21 : decode cX2_firstToGoFrom 21 = .ok (.aload_n 0, 1) := by decide +kernel
theorem dX2_firstToGoFrom_22 : decode cX2_firstToGoFrom 22 = .ok (.iload_n 3, 1) := by decide +kernel
theorem dX2_firstToGoFrom_23 : decode cX2_firstToGoFrom 23 = .ok (.invokevirtual 142, 3) := by decide +kernel
theorem dX2_firstToGoFrom_26 : decode cX2_firstToGoFrom 26 = .ok (.iconst (-1), 1) := by decide +kernel
theorem dX2_firstToGoFrom_27 : decode cX2_firstToGoFrom 27 = .ok (.if_icmp .eq 31, 3) := by decide +kernel
theorem dX2_firstToGoFrom_30 : decode cX2_firstToGoFrom 30 = .ok (.aload_n 0, 1) := by decide +kernel
theorem dX2_firstToGoFrom_31 : decode cX2_firstToGoFrom 31 = .ok (.iload_n 3, 1) := by decide +kernel
theorem dX2_firstToGoFrom_32 : decode cX2_firstToGoFrom 32 = .ok (.invokevirtual 145, 3) := by decide +kernel
theorem dX2_firstToGoFrom_35 : decode cX2_firstToGoFrom 35 = .ok (.ifCond .gt 23, 3) := by decide +kernel
theorem dX2_firstToGoFrom_38 : decode cX2_firstToGoFrom 38 = .ok (.iload_n 2, 1) := by decide +kernel
theorem dX2_firstToGoFrom_39 : decode cX2_firstToGoFrom 39 = .ok (.iconst (-1), 1) := by decide +kernel
theorem dX2_firstToGoFrom_40 : decode cX2_firstToGoFrom 40 = .ok (.if_icmp .eq 16, 3) := by decide +kernel
theorem dX2_firstToGoFrom_43 : decode cX2_firstToGoFrom 43 = .ok (.aload_n 0, 1) := by decide +kernel
theorem dX2_firstToGoFrom_44 : decode cX2_firstToGoFrom 44 = .ok (.iload_n 3, 1) := by decide +kernel
theorem dX2_firstToGoFrom_45 : decode cX2_firstToGoFrom 45 = .ok (.invokevirtual 127, 3) := by decide +kernel
theorem dX2_firstToGoFrom_48 : decode cX2_firstToGoFrom 48 = .ok (.aload_n 0, 1) := by decide +kernel
theorem dX2_firstToGoFrom_49 : decode cX2_firstToGoFrom 49 = .ok (.iload_n 2, 1) := by decide +kernel
theorem dX2_firstToGoFrom_50 : decode cX2_firstToGoFrom 50 = .ok (.invokevirtual 127, 3) := by decide +kernel
theorem dX2_firstToGoFrom_53 : decode cX2_firstToGoFrom 53 = .ok (.if_icmp .le 5, 3) := by decide +kernel
theorem dX2_firstToGoFrom_56 : decode cX2_firstToGoFrom 56 = .ok (.iload_n 3, 1) := by decide +kernel
theorem dX2_firstToGoFrom_57 : decode cX2_firstToGoFrom 57 = .ok (.istore_n 2, 1) := by decide +kernel
theorem dX2_firstToGoFrom_58 : decode cX2_firstToGoFrom 58 = .ok (.iinc 3 1, 3) := by decide +kernel
theorem dX2_firstToGoFrom_61 : decode cX2_firstToGoFrom 61 = .ok (.goto (-57), 3) := by decide +kernel
theorem dX2_firstToGoFrom_64 : decode cX2_firstToGoFrom 64 = .ok (.iload_n 2, 1) := by decide +kernel
theorem dX2_firstToGoFrom_65 : decode cX2_firstToGoFrom 65 = .ok (.ireturn, 1) := by decide +kernel
theorem dX2_wrongOf_0 : decode cX2_wrongOf 0 = .ok (.iconst 0, 1) := by decide +kernel
theorem dX2_wrongOf_1 : decode cX2_wrongOf 1 = .ok (.iload 4, 2) := by decide +kernel
theorem dX2_wrongOf_3 : decode cX2_wrongOf 3 = .ok (.iload_n 1, 1) := by decide +kernel
theorem dX2_wrongOf_4 : decode cX2_wrongOf 4 = .ok (.imul, 1) := by decide +kernel
theorem dX2_wrongOf_5 : decode cX2_wrongOf 5 = .ok (.iconst 3, 1) := by decide +kernel
theorem dX2_wrongOf_6 : decode cX2_wrongOf 6 = .ok (.aload_n 0, 1) := by decide +kernel
theorem dX2_wrongOf_7 : decode cX2_wrongOf 7 = .ok (.getfield 16, 3) := by decide +kernel
theorem dX2_wrongOf_10 : decode cX2_wrongOf 10 = .ok (.iload_n 2, 1) := by decide +kernel
theorem dX2_wrongOf_11 : decode cX2_wrongOf 11 = .ok (.iconst 1, 1) := by decide +kernel
theorem dX2_wrongOf_12 : decode cX2_wrongOf 12 = .ok (.invokevirtual 66, 3) := by decide +kernel
theorem dX2_wrongOf_15 : decode cX2_wrongOf 15 = .ok (.imul, 1) := by decide +kernel
theorem dX2_wrongOf_16 : decode cX2_wrongOf 16 = .ok (.isub, 1) := by decide +kernel
theorem dX2_wrongOf_17 : decode cX2_wrongOf 17 = .ok (.invokestatic 113, 3) := by decide +kernel
theorem dX2_wrongOf_20 : decode cX2_wrongOf 20 = .ok (.istore 5, 2) := by decide +kernel
theorem dX2_wrongOf_22 : decode cX2_wrongOf 22 = .ok (.iload 5, 2) := by decide +kernel
theorem dX2_wrongOf_24 : decode cX2_wrongOf 24 = .ok (.bipush 10, 2) := by decide +kernel
theorem dX2_wrongOf_26 : decode cX2_wrongOf 26 = .ok (.idiv, 1) := by decide +kernel
theorem dX2_wrongOf_27 : decode cX2_wrongOf 27 = .ok (.iload_n 3, 1) := by decide +kernel
theorem dX2_wrongOf_28 : decode cX2_wrongOf 28 = .ok (.invokestatic 148, 3) := by decide +kernel
theorem dX2_wrongOf_31 : decode cX2_wrongOf 31 = .ok (.ireturn, 1) := by decide +kernel
theorem dX3_init_0 : decode cX3_init 0 = .ok (.aload_n 0, 1) := by decide +kernel
theorem dX3_init_1 : decode cX3_init 1 = .ok (.invokespecial 3, 3) := by decide +kernel
theorem dX3_init_4 : decode cX3_init 4 = .ok (.aload_n 0, 1) := by decide +kernel
theorem dX3_init_5 : decode cX3_init 5 = .ok (.new 9, 3) := by decide +kernel
theorem dX3_init_8 : decode cX3_init 8 = .ok (.dup, 1) := by decide +kernel
theorem dX3_init_9 : decode cX3_init 9 = .ok (.bipush 10, 2) := by decide +kernel
theorem dX3_init_11 : decode cX3_init 11 = .ok (.bipush 10, 2) := by decide +kernel
theorem dX3_init_13 : decode cX3_init 13 = .ok (.invokespecial 11, 3) := by decide +kernel
theorem dX3_init_16 : decode cX3_init 16 = .ok (.putfield 14, 3) := by decide +kernel
theorem dX3_init_19 : decode cX3_init 19 = .ok (.aload_n 0, 1) := by decide +kernel
theorem dX3_init_20 : decode cX3_init 20 = .ok (.new 9, 3) := by decide +kernel
theorem dX3_init_23 : decode cX3_init 23 = .ok (.dup, 1) := by decide +kernel
theorem dX3_init_24 : decode cX3_init 24 = .ok (.bipush 10, 2) := by decide +kernel
theorem dX3_init_26 : decode cX3_init 26 = .ok (.bipush 10, 2) := by decide +kernel
theorem dX3_init_28 : decode cX3_init 28 = .ok (.invokespecial 11, 3) := by decide +kernel
theorem dX3_init_31 : decode cX3_init 31 = .ok (.putfield 20, 3) := by decide +kernel
theorem dX3_init_34 : decode cX3_init 34 = .ok (.aload_n 0, 1) := by decide +kernel
theorem dX3_init_35 : decode cX3_init 35 = .ok (.new 9, 3) := by decide +kernel
theorem dX3_init_38 : decode cX3_init 38 = .ok (.dup, 1) := by decide +kernel
theorem dX3_init_39 : decode cX3_init 39 = .ok (.bipush 10, 2) := by decide +kernel
theorem dX3_init_41 : decode cX3_init 41 = .ok (.bipush 10, 2) := by decide +kernel
theorem dX3_init_43 : decode cX3_init 43 = .ok (.invokespecial 11, 3) := by decide +kernel
theorem dX3_init_46 : decode cX3_init 46 = .ok (.putfield 23, 3) := by decide +kernel
theorem dX3_init_49 : decode cX3_init 49 = .ok (.return_, 1) := by decide +kernel
theorem dX3_copyFrom_0 : decode cX3_copyFrom 0 = .ok (.aload_n 0, 1) := by decide +kernel
theorem dX3_copyFrom_1 : decode cX3_copyFrom 1 = .ok (.getfield 14, 3) := by decide +kernel
theorem dX3_copyFrom_4 : decode cX3_copyFrom 4 = .ok (.aload_n 1, 1) := by decide +kernel
theorem dX3_copyFrom_5 : decode cX3_copyFrom 5 = .ok (.getfield 14, 3) := by decide +kernel
theorem dX3_copyFrom_8 : decode cX3_copyFrom 8 = .ok (.invokevirtual 26, 3) := by decide +kernel
theorem dX3_copyFrom_11 : decode cX3_copyFrom 11 = .ok (.aload_n 0, 1) := by decide +kernel
theorem dX3_copyFrom_12 : decode cX3_copyFrom 12 = .ok (.getfield 20, 3) := by decide +kernel
theorem dX3_copyFrom_15 : decode cX3_copyFrom 15 = .ok (.aload_n 1, 1) := by decide +kernel
theorem dX3_copyFrom_16 : decode cX3_copyFrom 16 = .ok (.getfield 20, 3) := by decide +kernel
theorem dX3_copyFrom_19 : decode cX3_copyFrom 19 = .ok (.invokevirtual 26, 3) := by decide +kernel
theorem dX3_copyFrom_22 : decode cX3_copyFrom 22 = .ok (.aload_n 0, 1) := by decide +kernel
theorem dX3_copyFrom_23 : decode cX3_copyFrom 23 = .ok (.getfield 23, 3) := by decide +kernel
theorem dX3_copyFrom_26 : decode cX3_copyFrom 26 = .ok (.aload_n 1, 1) := by decide +kernel
theorem dX3_copyFrom_27 : decode cX3_copyFrom 27 = .ok (.getfield 23, 3) := by decide +kernel
theorem dX3_copyFrom_30 : decode cX3_copyFrom 30 = .ok (.invokevirtual 26, 3) := by decide +kernel
theorem dX3_copyFrom_33 : decode cX3_copyFrom 33 = .ok (.return_, 1) := by decide +kernel
theorem dX3_lay_0 : decode cX3_lay 0 = .ok (.aload_n 0, 1) := by decide +kernel
theorem dX3_lay_1 : decode cX3_lay 1 = .ok (.aload_n 1, 1) := by decide +kernel
theorem dX3_lay_2 : decode cX3_lay 2 = .ok (.invokevirtual 30, 3) := by decide +kernel
theorem dX3_lay_5 : decode cX3_lay 5 = .ok (.iconst 0, 1) := by decide +kernel
theorem dX3_lay_6 : decode cX3_lay 6 = .ok (.istore_n 2, 1) := by decide +kernel
theorem dX3_lay_7 : decode cX3_lay 7 = .ok (.iload_n 2, 1) := by decide +kernel
theorem dX3_lay_8 : decode cX3_lay 8 = .ok (.aload_n 1, 1) := by decide +kernel
theorem dX3_lay_9 : decode cX3_lay 9 = .ok (.getfield 34, 3) := by decide +kernel
theorem dX3_lay_12 : decode cX3_lay 12 = .ok (.if_icmp .ge 40, 3) := by decide +kernel
theorem dX3_lay_15 : decode cX3_lay 15 = .ok (.aload_n 0, 1) := by decide +kernel
theorem dX3_lay_16 : decode cX3_lay 16 = .ok (.aload_n 1, 1) := by decide +kernel
theorem dX3_lay_17 : decode cX3_lay 17 = .ok (.getfield 40, 3) := by decide +kernel
theorem dX3_lay_20 : decode cX3_lay 20 = .ok (.iload_n 2, 1) := by decide +kernel
theorem dX3_lay_21 : decode cX3_lay 21 = .ok (.iconst 0, 1) := by decide +kernel
theorem dX3_lay_22 : decode cX3_lay 22 = .ok (.invokevirtual 43, 3) := by decide +kernel
theorem dX3_lay_25 : decode cX3_lay 25 = .ok (.aload_n 1, 1) := by decide +kernel
theorem dX3_lay_26 : decode cX3_lay 26 = .ok (.getfield 40, 3) := by decide +kernel
theorem dX3_lay_29 : decode cX3_lay 29 = .ok (.iload_n 2, 1) := by decide +kernel
theorem dX3_lay_30 : decode cX3_lay 30 = .ok (.iconst 1, 1) := by decide +kernel
theorem dX3_lay_31 : decode cX3_lay 31 = .ok (.invokevirtual 43, 3) := by decide +kernel
theorem dX3_lay_34 : decode cX3_lay 34 = .ok (.aload_n 1, 1) := by decide +kernel
theorem dX3_lay_35 : decode cX3_lay 35 = .ok (.getfield 40, 3) := by decide +kernel
theorem dX3_lay_38 : decode cX3_lay 38 = .ok (.iload_n 2, 1) := by decide +kernel
theorem dX3_lay_39 : decode cX3_lay 39 = .ok (.iconst 2, 1) := by decide +kernel
theorem dX3_lay_40 : decode cX3_lay 40 = .ok (.invokevirtual 43, 3) := by decide +kernel
theorem dX3_lay_43 : decode cX3_lay 43 = .ok (.invokevirtual 47, 3) := by decide +kernel
theorem dX3_lay_46 : decode cX3_lay 46 = .ok (.iinc 2 1, 3) := by decide +kernel
theorem dX3_lay_49 : decode cX3_lay 49 = .ok (.goto (-42), 3) := by decide +kernel
theorem dX3_lay_52 : decode cX3_lay 52 = .ok (.iconst 0, 1) := by decide +kernel
theorem dX3_lay_53 : decode cX3_lay 53 = .ok (.istore_n 2, 1) := by decide +kernel
theorem dX3_lay_54 : decode cX3_lay 54 = .ok (.iload_n 2, 1) := by decide +kernel
theorem dX3_lay_55 : decode cX3_lay 55 = .ok (.aload_n 1, 1) := by decide +kernel
theorem dX3_lay_56 : decode cX3_lay 56 = .ok (.getfield 51, 3) := by decide +kernel
theorem dX3_lay_59 : decode cX3_lay 59 = .ok (.if_icmp .ge 70, 3) := by decide +kernel
theorem dX3_lay_62 : decode cX3_lay 62 = .ok (.iconst 0, 1) := by decide +kernel
theorem dX3_lay_63 : decode cX3_lay 63 = .ok (.istore_n 3, 1) := by decide +kernel
theorem dX3_lay_64 : decode cX3_lay 64 = .ok (.iload_n 3, 1) := by decide +kernel
theorem dX3_lay_65 : decode cX3_lay 65 = .ok (.aload_n 1, 1) := by decide +kernel
theorem dX3_lay_66 : decode cX3_lay 66 = .ok (.getfield 51, 3) := by decide +kernel
theorem dX3_lay_69 : decode cX3_lay 69 = .ok (.if_icmp .ge 54, 3) := by decide +kernel
theorem dX3_lay_72 : decode cX3_lay 72 = .ok (.iconst 0, 1) := by decide +kernel
theorem dX3_lay_73 : decode cX3_lay 73 = .ok (.istore 4, 2) := by decide +kernel
theorem dX3_lay_75 : decode cX3_lay 75 = .ok (.iload 4, 2) := by decide +kernel
theorem dX3_lay_77 : decode cX3_lay 77 = .ok (.aload_n 1, 1) := by decide +kernel
theorem dX3_lay_78 : decode cX3_lay 78 = .ok (.getfield 51, 3) := by decide +kernel
theorem dX3_lay_81 : decode cX3_lay 81 = .ok (.if_icmp .ge 36, 3) := by decide +kernel
theorem dX3_lay_84 : decode cX3_lay 84 = .ok (.aload_n 0, 1) := by decide +kernel
theorem dX3_lay_85 : decode cX3_lay 85 = .ok (.iload_n 3, 1) := by decide +kernel
theorem dX3_lay_86 : decode cX3_lay 86 = .ok (.iload 4, 2) := by decide +kernel
theorem dX3_lay_88 : decode cX3_lay 88 = .ok (.aload_n 0, 1) := by decide +kernel
theorem dX3_lay_89 : decode cX3_lay 89 = .ok (.getfield 20, 3) := by decide +kernel
theorem dX3_lay_92 : decode cX3_lay 92 = .ok (.iload_n 3, 1) := by decide +kernel
theorem dX3_lay_93 : decode cX3_lay 93 = .ok (.iload_n 2, 1) := by decide +kernel
theorem dX3_lay_94 : decode cX3_lay 94 = .ok (.invokevirtual 43, 3) := by decide +kernel
theorem dX3_lay_97 : decode cX3_lay 97 = .ok (.aload_n 0, 1) := by decide +kernel
theorem dX3_lay_98 : decode cX3_lay 98 = .ok (.getfield 20, 3) := by decide +kernel
theorem dX3_lay_101 : decode cX3_lay 101 = .ok (.iload_n 2, 1) := by decide +kernel
theorem dX3_lay_102 : decode cX3_lay 102 = .ok (.iload 4, 2) := by decide +kernel
theorem dX3_lay_104 : decode cX3_lay 104 = .ok (.invokevirtual 43, 3) := by decide +kernel
theorem dX3_lay_107 : decode cX3_lay 107 = .ok (.iadd, 1) := by decide +kernel
theorem dX3_lay_108 : decode cX3_lay 108 = .ok (.invokevirtual 54, 3) := by decide +kernel
theorem dX3_lay_111 : decode cX3_lay 111 = .ok (.iinc 4 1, 3) := by decide +kernel
theorem dX3_lay_114 : decode cX3_lay 114 = .ok (.goto (-39), 3) := by decide +kernel
theorem dX3_lay_117 : decode cX3_lay 117 = .ok (.iinc 3 1, 3) := by decide +kernel
theorem dX3_lay_120 : decode cX3_lay 120 = .ok (.goto (-56), 3) := by decide +kernel
theorem dX3_lay_123 : decode cX3_lay 123 = .ok (.iinc 2 1, 3) := by decide +kernel
theorem dX3_lay_126 : decode cX3_lay 126 = .ok (.goto (-72), 3) := by decide +kernel
theorem dX3_lay_129 : decode cX3_lay 129 = .ok (.aload_n 0, 1) := by decide +kernel
theorem dX3_lay_130 : decode cX3_lay 130 = .ok (.aload_n 1, 1) := by decide +kernel
theorem dX3_lay_131 : decode cX3_lay 131 = .ok (.invokevirtual 57, 3) := by decide +kernel
theorem dX3_lay_134 : decode cX3_lay 134 = .ok (.return_, 1) := by decide +kernel
theorem dX3_sumByWays_0 : decode cX3_sumByWays 0 = .ok (.aload_n 0, 1) := by decide +kernel
theorem dX3_sumByWays_1 : decode cX3_sumByWays 1 = .ok (.aload_n 1, 1) := by decide +kernel
theorem dX3_sumByWays_2 : decode cX3_sumByWays 2 = .ok (.invokevirtual 30, 3) := by decide +kernel
theorem dX3_sumByWays_5 : decode cX3_sumByWays 5 = .ok (.iconst 1, 1) := by decide +kernel
theorem dX3_sumByWays_6 : decode cX3_sumByWays 6 = .ok (.istore_n 2, 1) := by decide +kernel
theorem dX3_sumByWays_7 : decode cX3_sumByWays 7 = .ok (.iload_n 2, 1) := by decide +kernel
theorem dX3_sumByWays_8 : decode cX3_sumByWays 8 = .ok (.aload_n 1, 1) := by decide +kernel
theorem dX3_sumByWays_9 : decode cX3_sumByWays 9 = .ok (.getfield 51, 3) := by decide +kernel
theorem dX3_sumByWays_12 : decode cX3_sumByWays 12 = .ok (.if_icmp .ge 120, 3) := by decide +kernel
theorem dX3_sumByWays_15 : decode cX3_sumByWays 15 = .ok (.iconst 0, 1) := by decide +kernel
theorem dX3_sumByWays_16 : decode cX3_sumByWays 16 = .ok (.istore_n 3, 1) := by decide +kernel
theorem dX3_sumByWays_17 : decode cX3_sumByWays 17 = .ok (.iload_n 3, 1) := by decide +kernel
theorem dX3_sumByWays_18 : decode cX3_sumByWays 18 = .ok (.aload_n 1, 1) := by decide +kernel
theorem dX3_sumByWays_19 : decode cX3_sumByWays 19 = .ok (.getfield 34, 3) := by decide +kernel
theorem dX3_sumByWays_22 : decode cX3_sumByWays 22 = .ok (.if_icmp .ge 104, 3) := by decide +kernel
theorem dX3_sumByWays_25 : decode cX3_sumByWays 25 = .ok (.aload_n 1, 1) := by decide +kernel
theorem dX3_sumByWays_26 : decode cX3_sumByWays 26 = .ok (.getfield 40, 3) := by decide +kernel
theorem dX3_sumByWays_29 : decode cX3_sumByWays 29 = .ok (.iload_n 3, 1) := by decide +kernel
theorem dX3_sumByWays_30 : decode cX3_sumByWays 30 = .ok (.iconst 0, 1) := by decide +kernel
theorem dX3_sumByWays_31 : decode cX3_sumByWays 31 = .ok (.invokevirtual 43, 3) := by decide +kernel
theorem dX3_sumByWays_34 : decode cX3_sumByWays 34 = .ok (.istore 4, 2) := by decide +kernel
theorem dX3_sumByWays_36 : decode cX3_sumByWays 36 = .ok (.aload_n 1, 1) := by decide +kernel
theorem dX3_sumByWays_37 : decode cX3_sumByWays 37 = .ok (.getfield 40, 3) := by decide +kernel
theorem dX3_sumByWays_40 : decode cX3_sumByWays 40 = .ok (.iload_n 3, 1) := by decide +kernel
theorem dX3_sumByWays_41 : decode cX3_sumByWays 41 = .ok (.iconst 1, 1) := by decide +kernel
theorem dX3_sumByWays_42 : decode cX3_sumByWays 42 = .ok (.invokevirtual 43, 3) := by decide +kernel
theorem dX3_sumByWays_45 : decode cX3_sumByWays 45 = .ok (.istore 5, 2) := by decide +kernel
theorem dX3_sumByWays_47 : decode cX3_sumByWays 47 = .ok (.aload_n 1, 1) := by decide +kernel
theorem dX3_sumByWays_48 : decode cX3_sumByWays 48 = .ok (.getfield 40, 3) := by decide +kernel
theorem dX3_sumByWays_51 : decode cX3_sumByWays 51 = .ok (.iload_n 3, 1) := by decide +kernel
theorem dX3_sumByWays_52 : decode cX3_sumByWays 52 = .ok (.iconst 2, 1) := by decide +kernel
theorem dX3_sumByWays_53 : decode cX3_sumByWays 53 = .ok (.invokevirtual 43, 3) := by decide +kernel
theorem dX3_sumByWays_56 : decode cX3_sumByWays 56 = .ok (.istore 6, 2) := by decide +kernel
theorem dX3_sumByWays_58 : decode cX3_sumByWays 58 = .ok (.iconst 0, 1) := by decide +kernel
theorem dX3_sumByWays_59 : decode cX3_sumByWays 59 = .ok (.istore 7, 2) := by decide +kernel
theorem dX3_sumByWays_61 : decode cX3_sumByWays 61 = .ok (.iload 7, 2) := by decide +kernel
theorem dX3_sumByWays_63 : decode cX3_sumByWays 63 = .ok (.aload_n 1, 1) := by decide +kernel
theorem dX3_sumByWays_64 : decode cX3_sumByWays 64 = .ok (.getfield 51, 3) := by decide +kernel
theorem dX3_sumByWays_67 : decode cX3_sumByWays 67 = .ok (.if_icmp .ge 53, 3) := by decide +kernel
theorem dX3_sumByWays_70 : decode cX3_sumByWays 70 = .ok (.aload_n 0, 1) := by decide +kernel
theorem dX3_sumByWays_71 : decode cX3_sumByWays 71 = .ok (.iload 7, 2) := by decide +kernel
theorem dX3_sumByWays_73 : decode cX3_sumByWays 73 = .ok (.iload 4, 2) := by decide +kernel
theorem dX3_sumByWays_75 : decode cX3_sumByWays 75 = .ok (.aload_n 0, 1) := by decide +kernel
theorem dX3_sumByWays_76 : decode cX3_sumByWays 76 = .ok (.getfield 20, 3) := by decide +kernel
theorem dX3_sumByWays_79 : decode cX3_sumByWays 79 = .ok (.iload 7, 2) := by decide +kernel
theorem dX3_sumByWays_81 : decode cX3_sumByWays 81 = .ok (.iload 5, 2) := by decide +kernel
theorem dX3_sumByWays_83 : decode cX3_sumByWays 83 = .ok (.invokevirtual 43, 3) := by decide +kernel
theorem dX3_sumByWays_86 : decode cX3_sumByWays 86 = .ok (.iload 6, 2) := by decide +kernel
theorem dX3_sumByWays_88 : decode cX3_sumByWays 88 = .ok (.iadd, 1) := by decide +kernel
theorem dX3_sumByWays_89 : decode cX3_sumByWays 89 = .ok (.invokevirtual 54, 3) := by decide +kernel
theorem dX3_sumByWays_92 : decode cX3_sumByWays 92 = .ok (.aload_n 0, 1) := by decide +kernel
theorem dX3_sumByWays_93 : decode cX3_sumByWays 93 = .ok (.iload 7, 2) := by decide +kernel
theorem dX3_sumByWays_95 : decode cX3_sumByWays 95 = .ok (.iload 5, 2) := by decide +kernel
theorem dX3_sumByWays_97 : decode cX3_sumByWays 97 = .ok (.aload_n 0, 1) := by decide +kernel
theorem dX3_sumByWays_98 : decode cX3_sumByWays 98 = .ok (.getfield 20, 3) := by decide +kernel
theorem dX3_sumByWays_101 : decode cX3_sumByWays 101 = .ok (.iload 7, 2) := by decide +kernel
theorem dX3_sumByWays_103 : decode cX3_sumByWays 103 = .ok (.iload 4, 2) := by decide +kernel
theorem dX3_sumByWays_105 : decode cX3_sumByWays 105 = .ok (.invokevirtual 43, 3) := by decide +kernel
theorem dX3_sumByWays_108 : decode cX3_sumByWays 108 = .ok (.iload 6, 2) := by decide +kernel
theorem dX3_sumByWays_110 : decode cX3_sumByWays 110 = .ok (.iadd, 1) := by decide +kernel
theorem dX3_sumByWays_111 : decode cX3_sumByWays 111 = .ok (.invokevirtual 54, 3) := by decide +kernel
theorem dX3_sumByWays_114 : decode cX3_sumByWays 114 = .ok (.iinc 7 1, 3) := by decide +kernel
theorem dX3_sumByWays_117 : decode cX3_sumByWays 117 = .ok (.goto (-56), 3) := by decide +kernel
theorem dX3_sumByWays_120 : decode cX3_sumByWays 120 = .ok (.iinc 3 1, 3) := by decide +kernel
theorem dX3_sumByWays_123 : decode cX3_sumByWays 123 = .ok (.goto (-106), 3) := by decide +kernel
theorem dX3_sumByWays_126 : decode cX3_sumByWays 126 = .ok (.iinc 2 1, 3) := by decide +kernel
theorem dX3_sumByWays_129 : decode cX3_sumByWays 129 = .ok (.goto (-122), 3) := by decide +kernel
theorem dX3_sumByWays_132 : decode cX3_sumByWays 132 = .ok (.return_, 1) := by decide +kernel
theorem dX3_layNone_0 : decode cX3_layNone 0 = .ok (.aload_n 0, 1) := by decide +kernel
theorem dX3_layNone_1 : decode cX3_layNone 1 = .ok (.getfield 14, 3) := by decide +kernel
theorem dX3_layNone_4 : decode cX3_layNone 4 = .ok (.iconst (-1), 1) := by decide +kernel
theorem dX3_layNone_5 : decode cX3_layNone 5 = .ok (.invokevirtual 60, 3) := by decide +kernel
theorem dX3_layNone_8 : decode cX3_layNone 8 = .ok (.aload_n 0, 1) := by decide +kernel
theorem dX3_layNone_9 : decode cX3_layNone 9 = .ok (.getfield 20, 3) := by decide +kernel
theorem dX3_layNone_12 : decode cX3_layNone 12 = .ok (.sipush 9999, 3) := by decide +kernel
theorem dX3_layNone_15 : decode cX3_layNone 15 = .ok (.invokevirtual 60, 3) := by decide +kernel
theorem dX3_layNone_18 : decode cX3_layNone 18 = .ok (.aload_n 0, 1) := by decide +kernel
theorem dX3_layNone_19 : decode cX3_layNone 19 = .ok (.getfield 23, 3) := by decide +kernel
theorem dX3_layNone_22 : decode cX3_layNone 22 = .ok (.iconst (-1), 1) := by decide +kernel
theorem dX3_layNone_23 : decode cX3_layNone 23 = .ok (.invokevirtual 60, 3) := by decide +kernel
theorem dX3_layNone_26 : decode cX3_layNone 26 = .ok (.iconst 0, 1) := by decide +kernel
theorem dX3_layNone_27 : decode cX3_layNone 27 = .ok (.istore_n 2, 1) := by decide +kernel
theorem dX3_layNone_28 : decode cX3_layNone 28 = .ok (.iload_n 2, 1) := by decide +kernel
theorem dX3_layNone_29 : decode cX3_layNone 29 = .ok (.aload_n 1, 1) := by decide +kernel
theorem dX3_layNone_30 : decode cX3_layNone 30 = .ok (.getfield 51, 3) := by decide +kernel
theorem dX3_layNone_33 : decode cX3_layNone 33 = .ok (.if_icmp .ge 19, 3) := by decide +kernel
theorem dX3_layNone_36 : decode cX3_layNone 36 = .ok (.aload_n 0, 1) := by decide +kernel
theorem dX3_layNone_37 : decode cX3_layNone 37 = .ok (.getfield 20, 3) := by decide +kernel
theorem dX3_layNone_40 : decode cX3_layNone 40 = .ok (.iload_n 2, 1) := by decide +kernel
theorem dX3_layNone_41 : decode cX3_layNone 41 = .ok (.iload_n 2, 1) := by decide +kernel
theorem dX3_layNone_42 : decode cX3_layNone 42 = .ok (.iconst 0, 1) := by decide +kernel
theorem dX3_layNone_43 : decode cX3_layNone 43 = .ok (.invokevirtual 64, 3) := by decide +kernel
theorem dX3_layNone_46 : decode cX3_layNone 46 = .ok (.iinc 2 1, 3) := by decide +kernel
theorem dX3_layNone_49 : decode cX3_layNone 49 = .ok (.goto (-21), 3) := by decide +kernel
theorem dX3_layNone_52 : decode cX3_layNone 52 = .ok (.return_, 1) := by decide +kernel
theorem dX3_layWay_0 : decode cX3_layWay 0 = .ok (.aload_n 0, 1) := by decide +kernel
theorem dX3_layWay_1 : decode cX3_layWay 1 = .ok (.getfield 14, 3) := by decide +kernel
theorem dX3_layWay_4 : decode cX3_layWay 4 = .ok (.iload_n 1, 1) := by decide +kernel
theorem dX3_layWay_5 : decode cX3_layWay 5 = .ok (.iload_n 2, 1) := by decide +kernel
theorem dX3_layWay_6 : decode cX3_layWay 6 = .ok (.iload_n 3, 1) := by decide +kernel
theorem dX3_layWay_7 : decode cX3_layWay 7 = .ok (.invokevirtual 64, 3) := by decide +kernel
theorem dX3_layWay_10 : decode cX3_layWay 10 = .ok (.aload_n 0, 1) := by decide +kernel
theorem dX3_layWay_11 : decode cX3_layWay 11 = .ok (.getfield 14, 3) := by decide +kernel
theorem dX3_layWay_14 : decode cX3_layWay 14 = .ok (.iload_n 2, 1) := by decide +kernel
theorem dX3_layWay_15 : decode cX3_layWay 15 = .ok (.iload_n 1, 1) := by decide +kernel
theorem dX3_layWay_16 : decode cX3_layWay 16 = .ok (.iload_n 3, 1) := by decide +kernel
theorem dX3_layWay_17 : decode cX3_layWay 17 = .ok (.invokevirtual 64, 3) := by decide +kernel
theorem dX3_layWay_20 : decode cX3_layWay 20 = .ok (.aload_n 0, 1) := by decide +kernel
theorem dX3_layWay_21 : decode cX3_layWay 21 = .ok (.getfield 20, 3) := by decide +kernel
theorem dX3_layWay_24 : decode cX3_layWay 24 = .ok (.iload_n 1, 1) := by decide +kernel
theorem dX3_layWay_25 : decode cX3_layWay 25 = .ok (.iload_n 2, 1) := by decide +kernel
theorem dX3_layWay_26 : decode cX3_layWay 26 = .ok (.iload_n 3, 1) := by decide +kernel
theorem dX3_layWay_27 : decode cX3_layWay 27 = .ok (.invokevirtual 64, 3) := by decide +kernel
theorem dX3_layWay_30 : decode cX3_layWay 30 = .ok (.aload_n 0, 1) := by decide +kernel
theorem dX3_layWay_31 : decode cX3_layWay 31 = .ok (.getfield 20, 3) := by decide +kernel
theorem dX3_layWay_34 : decode cX3_layWay 34 = .ok (.iload_n 2, 1) := by decide +kernel
theorem dX3_layWay_35 : decode cX3_layWay 35 = .ok (.iload_n 1, 1) := by decide +kernel
theorem dX3_layWay_36 : decode cX3_layWay 36 = .ok (.iload_n 3, 1) := by decide +kernel
theorem dX3_layWay_37 : decode cX3_layWay 37 = .ok (.invokevirtual 64, 3) := by decide +kernel
theorem dX3_layWay_40 : decode cX3_layWay 40 = .ok (.return_, 1) := by decide +kernel
theorem dX3_shorten_0 : decode cX3_shorten 0 = .ok (.iload_n 3, 1) := by decide +kernel
theorem dX3_shorten_1 : decode cX3_shorten 1 = .ok (.aload_n 0, 1) := by decide +kernel
theorem dX3_shorten_2 : decode cX3_shorten 2 = .ok (.getfield 20, 3) := by decide +kernel
theorem dX3_shorten_5 : decode cX3_shorten 5 = .ok (.iload_n 1, 1) := by decide +kernel
theorem dX3_shorten_6 : decode cX3_shorten 6 = .ok (.iload_n 2, 1) := by decide +kernel
theorem dX3_shorten_7 : decode cX3_shorten 7 = .ok (.invokevirtual 43, 3) := by decide +kernel
theorem dX3_shorten_10 : decode cX3_shorten 10 = .ok (.if_icmp .ge 13, 3) := by decide +kernel
theorem dX3_shorten_13 : decode cX3_shorten 13 = .ok (.aload_n 0, 1) := by decide +kernel
theorem dX3_shorten_14 : decode cX3_shorten 14 = .ok (.getfield 20, 3) := by decide +kernel
theorem dX3_shorten_17 : decode cX3_shorten 17 = .ok (.iload_n 1, 1) := by decide +kernel
theorem dX3_shorten_18 : decode cX3_shorten 18 = .ok (.iload_n 2, 1) := by decide +kernel
theorem dX3_shorten_19 : decode cX3_shorten 19 = .ok (.iload_n 3, 1) := by decide +kernel
theorem dX3_shorten_20 : decode cX3_shorten 20 = .ok (.invokevirtual 64, 3) := by decide +kernel
theorem dX3_shorten_23 : decode cX3_shorten 23 = .ok (.return_, 1) := by decide +kernel
theorem dX3_pointAll_0 : decode cX3_pointAll 0 = .ok (.iconst 0, 1) := by decide +kernel
theorem dX3_pointAll_1 : decode cX3_pointAll 1 = .ok (.istore_n 2, 1) := by decide +kernel
theorem dX3_pointAll_2 : decode cX3_pointAll 2 = .ok (.iload_n 2, 1) := by decide +kernel
theorem dX3_pointAll_3 : decode cX3_pointAll 3 = .ok (.aload_n 1, 1) := by decide +kernel
theorem dX3_pointAll_4 : decode cX3_pointAll 4 = .ok (.getfield 51, 3) := by decide +kernel
theorem dX3_pointAll_7 : decode cX3_pointAll 7 = .ok (.if_icmp .ge 60, 3) := by decide +kernel
theorem dX3_pointAll_10 : decode cX3_pointAll 10 = .ok (.iconst 0, 1) := by decide +kernel
theorem dX3_pointAll_11 : decode cX3_pointAll 11 = .ok (.istore_n 3, 1) := by decide +kernel
theorem dX3_pointAll_12 : decode cX3_pointAll 12 = .ok (.iload_n 3, 1) := by decide +kernel
theorem dX3_pointAll_13 : decode cX3_pointAll 13 = .ok (.aload_n 1, 1) := by decide +kernel
theorem dX3_pointAll_14 : decode cX3_pointAll 14 = .ok (.getfield 51, 3) := by decide +kernel
theorem dX3_pointAll_17 : decode cX3_pointAll 17 = .ok (.if_icmp .ge 44, 3) := by decide +kernel
theorem dX3_pointAll_20 : decode cX3_pointAll 20 = .ok (.iload_n 2, 1) := by decide +kernel
theorem dX3_pointAll_21 : decode cX3_pointAll 21 = .ok (.iload_n 3, 1) := by decide +kernel
theorem dX3_pointAll_22 : decode cX3_pointAll 22 = .ok (.if_icmp .eq 33, 3) := by decide +kernel
theorem dX3_pointAll_25 : decode cX3_pointAll 25 = .ok (.aload_n 0, 1) := by decide +kernel
theorem dX3_pointAll_26 : decode cX3_pointAll 26 = .ok (.getfield 20, 3) := by decide +kernel
theorem dX3_pointAll_29 : decode cX3_pointAll 29 = .ok (.iload_n 2, 1) := by decide +kernel
theorem dX3_pointAll_30 : decode cX3_pointAll 30 = .ok (.iload_n 3, 1) := by decide +kernel
theorem dX3_pointAll_31 : decode cX3_pointAll 31 = .ok (.invokevirtual 43, 3) := by decide +kernel
theorem dX3_pointAll_34 : decode cX3_pointAll 34 = .ok (.sipush 9999, 3) := by decide +kernel
theorem dX3_pointAll_37 : decode cX3_pointAll 37 = .ok (.if_icmp .ge 18, 3) := by decide +kernel
theorem dX3_pointAll_40 : decode cX3_pointAll 40 = .ok (.aload_n 0, 1) := by decide +kernel
theorem dX3_pointAll_41 : decode cX3_pointAll 41 = .ok (.getfield 23, 3) := by decide +kernel
theorem dX3_pointAll_44 : decode cX3_pointAll 44 = .ok (.iload_n 2, 1) := by decide +kernel
theorem dX3_pointAll_45 : decode cX3_pointAll 45 = .ok (.iload_n 3, 1) := by decide +kernel
theorem dX3_pointAll_46 : decode cX3_pointAll 46 = .ok (.aload_n 0, 1) := by decide +kernel
theorem dX3_pointAll_47 : decode cX3_pointAll 47 = .ok (.iload_n 2, 1) := by decide +kernel
theorem dX3_pointAll_48 : decode cX3_pointAll 48 = .ok (.iload_n 3, 1) := by decide +kernel
theorem dX3_pointAll_49 : decode cX3_pointAll 49 = .ok (.invokevirtual 67, 3) := by decide +kernel
theorem dX3_pointAll_52 : decode cX3_pointAll 52 = .ok (.invokevirtual 64, 3) := by decide +kernel
theorem dX3_pointAll_55 : decode cX3_pointAll 55 = .ok (.iinc 3 1, 3) := by decide +kernel
theorem dX3_pointAll_58 : decode cX3_pointAll 58 = .ok (.goto (-46), 3) := by decide +kernel
theorem dX3_pointAll_61 : decode cX3_pointAll 61 = .ok (.iinc 2 1, 3) := by decide +kernel
theorem dX3_pointAll_64 : decode cX3_pointAll 64 = .ok (.goto (-62), 3) := by decide +kernel
theorem dX3_pointAll_67 : decode cX3_pointAll 67 = .ok (.return_, 1) := by decide +kernel
theorem dX3_beginOf_0 : decode cX3_beginOf 0 = .ok (.iconst 0, 1) := by decide +kernel
theorem dX3_beginOf_1 : decode cX3_beginOf 1 = .ok (.istore_n 3, 1) := by decide +kernel
theorem dX3_beginOf_2 : decode cX3_beginOf 2 = .ok (.iload_n 3, 1) := by decide +kernel
theorem dX3_beginOf_3 : decode cX3_beginOf 3 = .ok (.bipush 10, 2) := by decide +kernel
theorem dX3_beginOf_5 : decode cX3_beginOf 5 = .ok (.if_icmp .ge 52, 3) := by decide +kernel
theorem dX3_beginOf_8 : decode cX3_beginOf 8 = .ok (.aload_n 0, 1) := by decide +kernel
theorem dX3_beginOf_9 : decode cX3_beginOf 9 = .ok (.getfield 14, 3) := by decide +kernel
theorem dX3_beginOf_12 : decode cX3_beginOf 12 = .ok (.iload_n 1, 1) := by decide +kernel
theorem dX3_beginOf_13 : decode cX3_beginOf 13 = .ok (.iload_n 3, 1) := by decide +kernel
theorem dX3_beginOf_14 : decode cX3_beginOf 14 = .ok (.invokevirtual 43, 3) := by decide +kernel
theorem dX3_beginOf_17 : decode cX3_beginOf 17 = .ok (.istore 4, 2) := by decide +kernel
theorem dX3_beginOf_19 : decode cX3_beginOf 19 = .ok (.iload 4, 2) := by decide +kernel
theorem dX3_beginOf_21 : decode cX3_beginOf 21 = .ok (.iconst (-1), 1) := by decide +kernel
theorem dX3_beginOf_22 : decode cX3_beginOf 22 = .ok (.if_icmp .eq 29, 3) := by decide +kernel
theorem dX3_beginOf_25 : decode cX3_beginOf 25 = .ok (.iload 4, 2) := by decide +kernel
theorem dX3_beginOf_27 : decode cX3_beginOf 27 = .ok (.aload_n 0, 1) := by decide +kernel
theorem dX3_beginOf_28 : decode cX3_beginOf 28 = .ok (.getfield 20, 3) := by decide +kernel
theorem dX3_beginOf_31 : decode cX3_beginOf 31 = .ok (.iload_n 3, 1) := by decide +kernel
theorem dX3_beginOf_32 : decode cX3_beginOf 32 = .ok (.iload_n 2, 1) := by decide +kernel
theorem dX3_beginOf_33 : decode cX3_beginOf 33 = .ok (.invokevirtual 43, 3) := by decide +kernel
theorem dX3_beginOf_36 : decode cX3_beginOf 36 = .ok (.iadd, 1) := by decide +kernel
theorem dX3_beginOf_37 : decode cX3_beginOf 37 = .ok (.aload_n 0, 1) := by decide +kernel
theorem dX3_beginOf_38 : decode cX3_beginOf 38 = .ok (.getfield 20, 3) := by decide +kernel
theorem dX3_beginOf_41 : decode cX3_beginOf 41 = .ok (.iload_n 1, 1) := by decide +kernel
theorem dX3_beginOf_42 : decode cX3_beginOf 42 = .ok (.iload_n 2, 1) := by decide +kernel
theorem dX3_beginOf_43 : decode cX3_beginOf 43 = .ok (.invokevirtual 43, 3) := by decide +kernel
theorem dX3_beginOf_46 : decode cX3_beginOf 46 = .ok (.if_icmp .ne 5, 3) := by decide +kernel
theorem dX3_beginOf_49 : decode cX3_beginOf 49 = .ok (.iload_n 3, 1) := by decide +kernel
theorem dX3_beginOf_50 : decode cX3_beginOf 50 = .ok (.ireturn, 1) := by decide +kernel
theorem dX3_beginOf_51 : decode cX3_beginOf 51 = .ok (.iinc 3 1, 3) := by decide +kernel
theorem dX3_beginOf_54 : decode cX3_beginOf 54 = .ok (.goto (-52), 3) := by decide +kernel
theorem dX3_beginOf_57 : decode cX3_beginOf 57 = .ok (.iconst (-1), 1) := by decide +kernel
theorem dX3_beginOf_58 : decode cX3_beginOf 58 = .ok (.ireturn, 1) := by decide +kernel
theorem dX3_hasSameSums_0 : decode cX3_hasSameSums 0 = .ok (.iconst 0, 1) := by decide +kernel
theorem dX3_hasSameSums_1 : decode cX3_hasSameSums 1 = .ok (.istore_n 3, 1) := by decide +kernel
theorem dX3_hasSameSums_2 : decode cX3_hasSameSums 2 = .ok (.iload_n 3, 1) := by decide +kernel
theorem dX3_hasSameSums_3 : decode cX3_hasSameSums 3 = .ok (.iload_n 2, 1) := by decide +kernel
theorem dX3_hasSameSums_4 : decode cX3_hasSameSums 4 = .ok (.if_icmp .ge 49, 3) := by decide +kernel
theorem dX3_hasSameSums_7 : decode cX3_hasSameSums 7 = .ok (.iconst 0, 1) := by decide +kernel
theorem dX3_hasSameSums_8 : decode cX3_hasSameSums 8 = .ok (.istore 4, 2) := by decide +kernel
theorem dX3_hasSameSums_10 : decode cX3_hasSameSums 10 = .ok (.iload 4, 2) := by decide +kernel
theorem dX3_hasSameSums_12 : decode cX3_hasSameSums 12 = .ok (.iload_n 2, 1) := by decide +kernel
theorem dX3_hasSameSums_13 : decode cX3_hasSameSums 13 = .ok (.if_icmp .ge 34, 3) := by decide +kernel
theorem dX3_hasSameSums_16 : decode cX3_hasSameSums 16 = .ok (.aload_n 0, 1) := by decide +kernel
theorem dX3_hasSameSums_17 : decode cX3_hasSameSums 17 = .ok (.getfield 20, 3) := by decide +kernel
theorem dX3_hasSameSums_20 : decode cX3_hasSameSums 20 = .ok (.iload_n 3, 1) := by decide +kernel
theorem dX3_hasSameSums_21 : decode cX3_hasSameSums 21 = .ok (.iload 4, 2) := by decide +kernel
theorem dX3_hasSameSums_23 : decode cX3_hasSameSums 23 = .ok (.invokevirtual 43, 3) := by decide +kernel
theorem dX3_hasSameSums_26 : decode cX3_hasSameSums 26 = .ok (.aload_n 1, 1) := by decide +kernel
theorem dX3_hasSameSums_27 : decode cX3_hasSameSums 27 = .ok (.getfield 20, 3) := by decide +kernel
theorem dX3_hasSameSums_30 : decode cX3_hasSameSums 30 = .ok (.iload_n 3, 1) := by decide +kernel
theorem dX3_hasSameSums_31 : decode cX3_hasSameSums 31 = .ok (.iload 4, 2) := by decide +kernel
theorem dX3_hasSameSums_33 : decode cX3_hasSameSums 33 = .ok (.invokevirtual 43, 3) := by decide +kernel
theorem dX3_hasSameSums_36 : decode cX3_hasSameSums 36 = .ok (.if_icmp .eq 5, 3) := by decide +kernel
theorem dX3_hasSameSums_39 : decode cX3_hasSameSums 39 = .ok (.iconst 0, 1) := by decide +kernel
theorem dX3_hasSameSums_40 : decode cX3_hasSameSums 40 = .ok (.ireturn, 1) := by decide +kernel
theorem dX3_hasSameSums_41 : decode cX3_hasSameSums 41 = .ok (.iinc 4 1, 3) := by decide +kernel
theorem dX3_hasSameSums_44 : decode cX3_hasSameSums 44 = .ok (.goto (-34), 3) := by decide +kernel
theorem dX3_hasSameSums_47 : decode cX3_hasSameSums 47 = .ok (.iinc 3 1, 3) := by decide +kernel
theorem dX3_hasSameSums_50 : decode cX3_hasSameSums 50 = .ok (.goto (-48), 3) := by decide +kernel
theorem dX3_hasSameSums_53 : decode cX3_hasSameSums 53 = .ok (.iconst 1, 1) := by decide +kernel
theorem dX3_hasSameSums_54 : decode cX3_hasSameSums 54 = .ok (.ireturn, 1) := by decide +kernel
theorem dX4_init_0 : decode cX4_init 0 = .ok (.aload_n 0, 1) := by decide +kernel
theorem dX4_init_1 : decode cX4_init 1 = .ok (.invokespecial 3, 3) := by decide +kernel
theorem dX4_init_4 : decode cX4_init 4 = .ok (.aload_n 0, 1) := by decide +kernel
theorem dX4_init_5 : decode cX4_init 5 = .ok (.aload_n 1, 1) := by decide +kernel
theorem dX4_init_6 : decode cX4_init 6 = .ok (.putfield 9, 3) := by decide +kernel
theorem dX4_init_9 : decode cX4_init 9 = .ok (.aload_n 0, 1) := by decide +kernel
theorem dX4_init_10 : decode cX4_init 10 = .ok (.aload_n 2, 1) := by decide +kernel
theorem dX4_init_11 : decode cX4_init 11 = .ok (.putfield 15, 3) := by decide +kernel
theorem dX4_init_14 : decode cX4_init 14 = .ok (.aload_n 0, 1) := by decide +kernel
theorem dX4_init_15 : decode cX4_init 15 = .ok (.new 19, 3) := by decide +kernel
theorem dX4_init_18 : decode cX4_init 18 = .ok (.dup, 1) := by decide +kernel
theorem dX4_init_19 : decode cX4_init 19 = .ok (.bipush 30, 2) := by decide +kernel
theorem dX4_init_21 : decode cX4_init 21 = .ok (.iconst 5, 1) := by decide +kernel
theorem dX4_init_22 : decode cX4_init 22 = .ok (.invokespecial 21, 3) := by decide +kernel
theorem dX4_init_25 : decode cX4_init 25 = .ok (.putfield 24, 3) := by decide +kernel
theorem dX4_init_28 : decode cX4_init 28 = .ok (.aload_n 0, 1) := by decide +kernel
theorem dX4_init_29 : decode cX4_init 29 = .ok (.iconst 0, 1) := by decide +kernel
theorem dX4_init_30 : decode cX4_init 30 = .ok (.putfield 28, 3) := by decide +kernel
theorem dX4_init_33 : decode cX4_init 33 = .ok (.return_, 1) := by decide +kernel
theorem dX4_isRead_0 : decode cX4_isRead 0 = .ok (.aload_n 0, 1) := by decide +kernel
theorem dX4_isRead_1 : decode cX4_isRead 1 = .ok (.iconst 0, 1) := by decide +kernel
theorem dX4_isRead_2 : decode cX4_isRead 2 = .ok (.putfield 28, 3) := by decide +kernel
theorem dX4_isRead_5 : decode cX4_isRead 5 = .ok (.aload_n 0, 1) := by decide +kernel
theorem dX4_isRead_6 : decode cX4_isRead 6 = .ok (.getfield 9, 3) := by decide +kernel
theorem dX4_isRead_9 : decode cX4_isRead 9 = .ok (.invokevirtual 32, 3) := by decide +kernel
theorem dX4_isRead_12 : decode cX4_isRead 12 = .ok (.iconst 0, 1) := by decide +kernel
theorem dX4_isRead_13 : decode cX4_isRead 13 = .ok (.istore_n 1, 1) := by decide +kernel
theorem dX4_isRead_14 : decode cX4_isRead 14 = .ok (.iload_n 1, 1) := by decide +kernel
theorem dX4_isRead_15 : decode cX4_isRead 15 = .ok (.sipush 800, 3) := by decide +kernel
theorem dX4_isRead_18 : decode cX4_isRead 18 = .ok (.if_icmp .ge 42, 3) := by decide +kernel
theorem dX4_isRead_21 : decode cX4_isRead 21 = .ok (.aload_n 0, 1) := by decide +kernel
theorem dX4_isRead_22 : decode cX4_isRead 22 = .ok (.getfield 9, 3) := by decide +kernel
theorem dX4_isRead_25 : decode cX4_isRead 25 = .ok (.getfield 37, 3) := by decide +kernel
theorem dX4_isRead_28 : decode cX4_isRead 28 = .ok (.ifCond .eq 32, 3) := by decide +kernel
theorem dX4_isRead_31 : decode cX4_isRead 31 = .ok (.aload_n 0, 1) := by decide +kernel
theorem dX4_isRead_32 : decode cX4_isRead 32 = .ok (.aload_n 0, 1) := by decide +kernel
theorem dX4_isRead_33 : decode cX4_isRead 33 = .ok (.invokevirtual 40, 3) := by decide +kernel
theorem dX4_isRead_36 : decode cX4_isRead 36 = .ok (.invokevirtual 44, 3) := by decide +kernel
theorem dX4_isRead_39 : decode cX4_isRead 39 = .ok (.ifCond .ne 5, 3) := by decide +kernel
theorem dX4_isRead_42 : decode cX4_isRead 42 = .ok (.iconst 0, 1) := by decide +kernel
theorem dX4_isRead_43 : decode cX4_isRead 43 = .ok (.ireturn, 1) := by decide +kernel
theorem dX4_isRead_44 : decode cX4_isRead 44 = .ok (.aload_n 0, 1) := by decide +kernel
theorem dX4_isRead_45 : decode cX4_isRead 45 = .ok (.dup, 1) := by decide +kernel
theorem dX4_isRead_46 : decode cX4_isRead 46 = .ok (.getfield 28, 3) := by decide +kernel
theorem dX4_isRead_49 : decode cX4_isRead 49 = .ok (.iconst 1, 1) := by decide +kernel
theorem dX4_isRead_50 : decode cX4_isRead 50 = .ok (.iadd, 1) := by decide +kernel
theorem dX4_isRead_51 : decode cX4_isRead 51 = .ok (.putfield 28, 3) := by decide +kernel
theorem dX4_isRead_54 : decode cX4_isRead 54 = .ok (.iinc 1 1, 3) := by decide +kernel
theorem dX4_isRead_57 : decode cX4_isRead 57 = .ok (.goto (-43), 3) := by decide +kernel
theorem dX4_isRead_60 : decode cX4_isRead 60 = .ok (.iconst 1, 1) := by decide +kernel
theorem dX4_isRead_61 : decode cX4_isRead 61 = .ok (.ireturn, 1) := by decide +kernel
theorem dX4_isStatementRead_0 : decode cX4_isStatementRead 0 = .ok (.iload_n 1, 1) := by decide +kernel
theorem dX4_isStatementRead_1 : decode cX4_isStatementRead 1 = .ok (.iconst (-1), 1) := by decide +kernel
theorem dX4_isStatementRead_2 : decode cX4_isStatementRead 2 = .ok (.if_icmp .ne 12, 3) := by decide +kernel
theorem dX4_isStatementRead_5 : decode cX4_isStatementRead 5 = .ok (.aload_n 0, 1) := by decide +kernel
theorem dX4_isStatementRead_6 : decode cX4_isStatementRead 6 = .ok (.getfield 9, 3) := by decide +kernel
theorem dX4_isStatementRead_9 : decode cX4_isStatementRead 9 = .ok (.iconst 1, 1) := by decide +kernel
theorem dX4_isStatementRead_10 : decode cX4_isStatementRead 10 = .ok (.invokevirtual 48, 3) := by decide +kernel
theorem dX4_isStatementRead_13 : decode cX4_isStatementRead 13 = .ok (.ireturn, 1) := by decide +kernel
theorem dX4_isStatementRead_14 : decode cX4_isStatementRead 14 = .ok (.aload_n 0, 1) := by decide +kernel
theorem dX4_isStatementRead_15 : decode cX4_isStatementRead 15 = .ok (.getfield 28, 3) := by decide +kernel
theorem dX4_isStatementRead_18 : decode cX4_isStatementRead 18 = .ok (.bipush 30, 2) := by decide +kernel
theorem dX4_isStatementRead_20 : decode cX4_isStatementRead 20 = .ok (.if_icmp .lt 12, 3) := by decide +kernel
theorem dX4_isStatementRead_23 : decode cX4_isStatementRead 23 = .ok (.aload_n 0, 1) := by decide +kernel
theorem dX4_isStatementRead_24 : decode cX4_isStatementRead 24 = .ok (.getfield 9, 3) := by decide +kernel
theorem dX4_isStatementRead_27 : decode cX4_isStatementRead 27 = .ok (.iconst 5, 1) := by decide +kernel
theorem dX4_isStatementRead_28 : decode cX4_isStatementRead 28 = .ok (.invokevirtual 48, 3) := by decide +kernel
theorem dX4_isStatementRead_31 : decode cX4_isStatementRead 31 = .ok (.ireturn, 1) := by decide +kernel
theorem dX4_isStatementRead_32 : decode cX4_isStatementRead 32 = .ok (.aload_n 0, 1) := by decide +kernel
theorem dX4_isStatementRead_33 : decode cX4_isStatementRead 33 = .ok (.getfield 24, 3) := by decide +kernel
theorem dX4_isStatementRead_36 : decode cX4_isStatementRead 36 = .ok (.aload_n 0, 1) := by decide +kernel
theorem dX4_isStatementRead_37 : decode cX4_isStatementRead 37 = .ok (.getfield 28, 3) := by decide +kernel
theorem dX4_isStatementRead_40 : decode cX4_isStatementRead 40 = .ok (.iconst 0, 1) := by decide +kernel
theorem dX4_isStatementRead_41 : decode cX4_isStatementRead 41 = .ok (.iload_n 1, 1) := by decide +kernel
theorem dX4_isStatementRead_42 : decode cX4_isStatementRead 42 = .ok (.invokevirtual 51, 3) := by decide +kernel
theorem dX4_isStatementRead_45 : decode cX4_isStatementRead 45 = .ok (.aload_n 0, 1) := by decide +kernel
theorem dX4_isStatementRead_46 : decode cX4_isStatementRead 46 = .ok (.getfield 9, 3) := by decide +kernel
theorem dX4_isStatementRead_49 : decode cX4_isStatementRead 49 = .ok (.invokevirtual 55, 3) := by decide +kernel
theorem dX4_isStatementRead_52 : decode cX4_isStatementRead 52 = .ok (.iload_n 1, 1) := by decide +kernel
theorem dX4_isStatementRead_53 : decode cX4_isStatementRead 53 = .ok (.tableswitch 158 0 4 #[35, 35, 80, 92, 120], 35) := by decide +kernel
theorem dX4_isStatementRead_88 : decode cX4_isStatementRead 88 = .ok (.aload_n 0, 1) := by decide +kernel
theorem dX4_isStatementRead_89 : decode cX4_isStatementRead 89 = .ok (.iconst 1, 1) := by decide +kernel
theorem dX4_isStatementRead_90 : decode cX4_isStatementRead 90 = .ok (.iconst (-1), 1) := by decide +kernel
theorem dX4_isStatementRead_91 : decode cX4_isStatementRead 91 = .ok (.invokevirtual 58, 3) := by decide +kernel
theorem dX4_isStatementRead_94 : decode cX4_isStatementRead 94 = .ok (.ifCond .eq 34, 3) := by decide +kernel
theorem dX4_isStatementRead_97 : decode cX4_isStatementRead 97 = .ok (.aload_n 0, 1) := by decide +kernel
theorem dX4_isStatementRead_98 : decode cX4_isStatementRead 98 = .ok (.iconst 2, 1) := by decide +kernel
theorem dX4_isStatementRead_99 : decode cX4_isStatementRead 99 = .ok (.aload_n 0, 1) := by decide +kernel
theorem dX4_isStatementRead_100 : decode cX4_isStatementRead 100 = .ok (.getfield 24, 3) := by decide +kernel
theorem dX4_isStatementRead_103 : decode cX4_isStatementRead 103 = .ok (.aload_n 0, 1) := by decide +kernel
theorem dX4_isStatementRead_104 : decode cX4_isStatementRead 104 = .ok (.getfield 28, 3) := by decide +kernel
theorem dX4_isStatementRead_107 : decode cX4_isStatementRead 107 = .ok (.iconst 1, 1) := by decide +kernel
theorem dX4_isStatementRead_108 : decode cX4_isStatementRead 108 = .ok (.invokevirtual 62, 3) := by decide +kernel
theorem dX4_isStatementRead_111 : decode cX4_isStatementRead 111 = .ok (.invokevirtual 58, 3) := by decide +kernel
theorem dX4_isStatementRead_114 : decode cX4_isStatementRead 114 = .ok (.ifCond .eq 14, 3) := by decide +kernel
theorem dX4_isStatementRead_117 : decode cX4_isStatementRead 117 = .ok (.aload_n 0, 1) := by decide +kernel
theorem dX4_isStatementRead_118 : decode cX4_isStatementRead 118 = .ok (.invokevirtual 66, 3) := by decide +kernel
theorem dX4_isStatementRead_121 : decode cX4_isStatementRead 121 = .ok (.ifCond .eq 7, 3) := by decide +kernel
theorem dX4_isStatementRead_124 : decode cX4_isStatementRead 124 = .ok (.iconst 1, 1) := by decide +kernel
theorem dX4_isStatementRead_125 : decode cX4_isStatementRead 125 = .ok (.goto 4, 3) := by decide +kernel
theorem dX4_isStatementRead_128 : decode cX4_isStatementRead 128 = .ok (.iconst 0, 1) := by decide +kernel
theorem dX4_isStatementRead_129 : decode cX4_isStatementRead 129 = .ok (.istore_n 2, 1) := by decide +kernel
theorem dX4_isStatementRead_130 : decode cX4_isStatementRead 130 = .ok (.goto 94, 3) := by decide +kernel
theorem dX4_isStatementRead_133 : decode cX4_isStatementRead 133 = .ok (.aload_n 0, 1) := by decide +kernel
theorem dX4_isStatementRead_134 : decode cX4_isStatementRead 134 = .ok (.iconst 1, 1) := by decide +kernel
theorem dX4_isStatementRead_135 : decode cX4_isStatementRead 135 = .ok (.sipush 200, 3) := by decide +kernel
theorem dX4_isStatementRead_138 : decode cX4_isStatementRead 138 = .ok (.invokevirtual 70, 3) := by decide +kernel
theorem dX4_isStatementRead_141 : decode cX4_isStatementRead 141 = .ok (.istore_n 2, 1) := by decide +kernel
theorem dX4_isStatementRead_142 : decode cX4_isStatementRead 142 = .ok (.goto 82, 3) := by decide +kernel
theorem dX4_isStatementRead_145 : decode cX4_isStatementRead 145 = .ok (.aload_n 0, 1) := by decide +kernel
theorem dX4_isStatementRead_146 : decode cX4_isStatementRead 146 = .ok (.iconst 1, 1) := by decide +kernel
theorem dX4_isStatementRead_147 : decode cX4_isStatementRead 147 = .ok (.iconst (-1), 1) := by decide +kernel
theorem dX4_isStatementRead_148 : decode cX4_isStatementRead 148 = .ok (.invokevirtual 58, 3) := by decide +kernel
theorem dX4_isStatementRead_151 : decode cX4_isStatementRead 151 = .ok (.ifCond .eq 17, 3) := by decide +kernel
theorem dX4_isStatementRead_154 : decode cX4_isStatementRead 154 = .ok (.aload_n 0, 1) := by decide +kernel
theorem dX4_isStatementRead_155 : decode cX4_isStatementRead 155 = .ok (.iconst 1, 1) := by decide +kernel
theorem dX4_isStatementRead_156 : decode cX4_isStatementRead 156 = .ok (.bipush 99, 2) := by decide +kernel
theorem dX4_isStatementRead_158 : decode cX4_isStatementRead 158 = .ok (.invokevirtual 70, 3) := by decide +kernel
theorem dX4_isStatementRead_161 : decode cX4_isStatementRead 161 = .ok (.ifCond .eq 7, 3) := by decide +kernel
theorem dX4_isStatementRead_164 : decode cX4_isStatementRead 164 = .ok (.iconst 1, 1) := by decide +kernel
theorem dX4_isStatementRead_165 : decode cX4_isStatementRead 165 = .ok (.goto 4, 3) := by decide +kernel
theorem dX4_isStatementRead_168 : decode cX4_isStatementRead 168 = .ok (.iconst 0, 1) := by decide +kernel
theorem dX4_isStatementRead_169 : decode cX4_isStatementRead 169 = .ok (.istore_n 2, 1) := by decide +kernel
theorem dX4_isStatementRead_170 : decode cX4_isStatementRead 170 = .ok (.goto 54, 3) := by decide +kernel
theorem dX4_isStatementRead_173 : decode cX4_isStatementRead 173 = .ok (.aload_n 0, 1) := by decide +kernel
theorem dX4_isStatementRead_174 : decode cX4_isStatementRead 174 = .ok (.iconst 1, 1) := by decide +kernel
theorem dX4_isStatementRead_175 : decode cX4_isStatementRead 175 = .ok (.iconst (-1), 1) := by decide +kernel
theorem dX4_isStatementRead_176 : decode cX4_isStatementRead 176 = .ok (.invokevirtual 58, 3) := by decide +kernel
theorem dX4_isStatementRead_179 : decode cX4_isStatementRead 179 = .ok (.ifCond .eq 27, 3) := by decide +kernel
theorem dX4_isStatementRead_182 : decode cX4_isStatementRead 182 = .ok (.aload_n 0, 1) := by decide +kernel
theorem dX4_isStatementRead_183 : decode cX4_isStatementRead 183 = .ok (.iconst 2, 1) := by decide +kernel
theorem dX4_isStatementRead_184 : decode cX4_isStatementRead 184 = .ok (.aload_n 0, 1) := by decide +kernel
theorem dX4_isStatementRead_185 : decode cX4_isStatementRead 185 = .ok (.getfield 24, 3) := by decide +kernel
theorem dX4_isStatementRead_188 : decode cX4_isStatementRead 188 = .ok (.aload_n 0, 1) := by decide +kernel
theorem dX4_isStatementRead_189 : decode cX4_isStatementRead 189 = .ok (.getfield 28, 3) := by decide +kernel
theorem dX4_isStatementRead_192 : decode cX4_isStatementRead 192 = .ok (.iconst 1, 1) := by decide +kernel
theorem dX4_isStatementRead_193 : decode cX4_isStatementRead 193 = .ok (.invokevirtual 62, 3) := by decide +kernel
theorem dX4_isStatementRead_196 : decode cX4_isStatementRead 196 = .ok (.invokevirtual 58, 3) := by decide +kernel
theorem dX4_isStatementRead_199 : decode cX4_isStatementRead 199 = .ok (.ifCond .eq 7, 3) := by decide +kernel
theorem dX4_isStatementRead_202 : decode cX4_isStatementRead 202 = .ok (.iconst 1, 1) := by decide +kernel
theorem dX4_isStatementRead_203 : decode cX4_isStatementRead 203 = .ok (.goto 4, 3) := by decide +kernel
theorem dX4_isStatementRead_206 : decode cX4_isStatementRead 206 = .ok (.iconst 0, 1) := by decide +kernel
theorem dX4_isStatementRead_207 : decode cX4_isStatementRead 207 = .ok (.istore_n 2, 1) := by decide +kernel
theorem dX4_isStatementRead_208 : decode cX4_isStatementRead 208 = .ok (.goto 16, 3) := by decide +kernel
theorem dX4_isStatementRead_211 : decode cX4_isStatementRead 211 = .ok (.aload_n 0, 1) := by decide +kernel
theorem dX4_isStatementRead_212 : decode cX4_isStatementRead 212 = .ok (.iload_n 1, 1) := by decide +kernel
theorem dX4_isStatementRead_213 : decode cX4_isStatementRead 213 = .ok (.invokestatic 73, 3) := by decide +kernel
theorem dX4_isStatementRead_216 : decode cX4_isStatementRead 216 = .ok (.iload_n 1, 1) := by decide +kernel
theorem dX4_isStatementRead_217 : decode cX4_isStatementRead 217 = .ok (.invokestatic 79, 3) := by decide +kernel
theorem dX4_isStatementRead_220 : decode cX4_isStatementRead 220 = .ok (.invokevirtual 70, 3) := by decide +kernel
theorem dX4_isStatementRead_223 : decode cX4_isStatementRead 223 = .ok (.istore_n 2, 1) := by decide +kernel
theorem dX4_isStatementRead_224 : decode cX4_isStatementRead 224 = .ok (.iload_n 2, 1) := by decide +kernel
theorem dX4_isStatementRead_225 : decode cX4_isStatementRead 225 = .ok (.ifCond .eq 17, 3) := by decide +kernel
theorem dX4_isStatementRead_228 : decode cX4_isStatementRead 228 = .ok (.aload_n 0, 1) := by decide +kernel
theorem dX4_isStatementRead_229 : decode cX4_isStatementRead 229 = .ok (.getfield 9, 3) := by decide +kernel
theorem dX4_isStatementRead_232 : decode cX4_isStatementRead 232 = .ok (.invokevirtual 82, 3) := by decide +kernel
theorem dX4_isStatementRead_235 : decode cX4_isStatementRead 235 = .ok (.ifCond .eq 7, 3) := by decide +kernel
theorem dX4_isStatementRead_238 : decode cX4_isStatementRead 238 = .ok (.iconst 1, 1) := by decide +kernel
theorem dX4_isStatementRead_239 : decode cX4_isStatementRead 239 = .ok (.goto 4, 3) := by decide +kernel
theorem dX4_isStatementRead_242 : decode cX4_isStatementRead 242 = .ok (.iconst 0, 1) := by decide +kernel
theorem dX4_isStatementRead_243 : decode cX4_isStatementRead 243 = .ok (.ireturn, 1) := by decide +kernel
theorem dX4_wordHere_0 : decode cX4_wordHere 0 = .ok (.aload_n 0, 1) := by decide +kernel
theorem dX4_wordHere_1 : decode cX4_wordHere 1 = .ok (.getfield 9, 3) := by decide +kernel
theorem dX4_wordHere_4 : decode cX4_wordHere 4 = .ok (.ldc 85, 2) := by decide +kernel
theorem dX4_wordHere_6 : decode cX4_wordHere 6 = .ok (.invokevirtual 87, 3) := by decide +kernel
theorem dX4_wordHere_9 : decode cX4_wordHere 9 = .ok (.ifCond .eq 5, 3) := by decide +kernel
theorem dX4_wordHere_12 : decode cX4_wordHere 12 = .ok (.iconst 0, 1) := by decide +kernel
theorem dX4_wordHere_13 : decode cX4_wordHere 13 = .ok (.ireturn, 1) := by decide +kernel
theorem dX4_wordHere_14 : decode cX4_wordHere 14 = .ok (.aload_n 0, 1) := by decide +kernel
theorem dX4_wordHere_15 : decode cX4_wordHere 15 = .ok (.getfield 9, 3) := by decide +kernel
theorem dX4_wordHere_18 : decode cX4_wordHere 18 = .ok (.ldc 91, 2) := by decide +kernel
theorem dX4_wordHere_20 : decode cX4_wordHere 20 = .ok (.invokevirtual 87, 3) := by decide +kernel
theorem dX4_wordHere_23 : decode cX4_wordHere 23 = .ok (.ifCond .eq 5, 3) := by decide +kernel
theorem dX4_wordHere_26 : decode cX4_wordHere 26 = .ok (.iconst 1, 1) := by decide +kernel
theorem dX4_wordHere_27 : decode cX4_wordHere 27 = .ok (.ireturn, 1) := by decide +kernel
theorem dX4_wordHere_28 : decode cX4_wordHere 28 = .ok (.aload_n 0, 1) := by decide +kernel
theorem dX4_wordHere_29 : decode cX4_wordHere 29 = .ok (.getfield 9, 3) := by decide +kernel
theorem dX4_wordHere_32 : decode cX4_wordHere 32 = .ok (.ldc 93, 2) := by decide +kernel
theorem dX4_wordHere_34 : decode cX4_wordHere 34 = .ok (.invokevirtual 87, 3) := by decide +kernel
theorem dX4_wordHere_37 : decode cX4_wordHere 37 = .ok (.ifCond .eq 5, 3) := by decide +kernel
theorem dX4_wordHere_40 : decode cX4_wordHere 40 = .ok (.iconst 2, 1) := by decide +kernel
theorem dX4_wordHere_41 : decode cX4_wordHere 41 = .ok (.ireturn, 1) := by decide +kernel
theorem dX4_wordHere_42 : decode cX4_wordHere 42 = .ok (.aload_n 0, 1) := by decide +kernel
theorem dX4_wordHere_43 : decode cX4_wordHere 43 = .ok (.getfield 9, 3) := by decide +kernel
theorem dX4_wordHere_46 : decode cX4_wordHere 46 = .ok (.ldc 95, 2) := by decide +kernel
theorem dX4_wordHere_48 : decode cX4_wordHere 48 = .ok (.invokevirtual 87, 3) := by decide +kernel
theorem dX4_wordHere_51 : decode cX4_wordHere 51 = .ok (.ifCond .eq 5, 3) := by decide +kernel
theorem dX4_wordHere_54 : decode cX4_wordHere 54 = .ok (.iconst 3, 1) := by decide +kernel
theorem dX4_wordHere_55 : decode cX4_wordHere 55 = .ok (.ireturn, 1) := by decide +kernel
theorem dX4_wordHere_56 : decode cX4_wordHere 56 = .ok (.aload_n 0, 1) := by decide +kernel
theorem dX4_wordHere_57 : decode cX4_wordHere 57 = .ok (.getfield 9, 3) := by decide +kernel
theorem dX4_wordHere_60 : decode cX4_wordHere 60 = .ok (.ldc 97, 2) := by decide +kernel
theorem dX4_wordHere_62 : decode cX4_wordHere 62 = .ok (.invokevirtual 87, 3) := by decide +kernel
theorem dX4_wordHere_65 : decode cX4_wordHere 65 = .ok (.ifCond .eq 7, 3) := by decide +kernel
theorem dX4_wordHere_68 : decode cX4_wordHere 68 = .ok (.iconst 4, 1) := by decide +kernel
theorem dX4_wordHere_69 : decode cX4_wordHere 69 = .ok (.goto 10, 3) := by decide +kernel
theorem dX4_wordHere_72 : decode cX4_wordHere 72 = .ok (.aload_n 0, 1) := by decide +kernel
theorem dX4_wordHere_73 : decode cX4_wordHere 73 = .ok (.getfield 9, 3) := by decide +kernel
theorem dX4_wordHere_76 : decode cX4_wordHere 76 = .ok (.invokevirtual 99, 3) := by decide +kernel
theorem dX4_wordHere_79 : decode cX4_wordHere 79 = .ok (.ireturn, 1) := by decide +kernel
theorem dX4_isRoofRead_0 : decode cX4_isRoofRead 0 = .ok (.aload_n 0, 1) := by decide +kernel
theorem dX4_isRoofRead_1 : decode cX4_isRoofRead 1 = .ok (.getfield 9, 3) := by decide +kernel
theorem dX4_isRoofRead_4 : decode cX4_isRoofRead 4 = .ok (.aload_n 0, 1) := by decide +kernel
theorem dX4_isRoofRead_5 : decode cX4_isRoofRead 5 = .ok (.getfield 15, 3) := by decide +kernel
theorem dX4_isRoofRead_8 : decode cX4_isRoofRead 8 = .ok (.iload_n 2, 1) := by decide +kernel
theorem dX4_isRoofRead_9 : decode cX4_isRoofRead 9 = .ok (.invokevirtual 102, 3) := by decide +kernel
theorem dX4_isRoofRead_12 : decode cX4_isRoofRead 12 = .ok (.istore_n 3, 1) := by decide +kernel
theorem dX4_isRoofRead_13 : decode cX4_isRoofRead 13 = .ok (.iload_n 3, 1) := by decide +kernel
theorem dX4_isRoofRead_14 : decode cX4_isRoofRead 14 = .ok (.iconst (-1), 1) := by decide +kernel
theorem dX4_isRoofRead_15 : decode cX4_isRoofRead 15 = .ok (.if_icmp .ne 5, 3) := by decide +kernel
theorem dX4_isRoofRead_18 : decode cX4_isRoofRead 18 = .ok (.iconst 0, 1) := by decide +kernel
theorem dX4_isRoofRead_19 : decode cX4_isRoofRead 19 = .ok (.ireturn, 1) := by decide +kernel
theorem dX4_isRoofRead_20 : decode cX4_isRoofRead 20 = .ok (.aload_n 0, 1) := by decide +kernel
theorem dX4_isRoofRead_21 : decode cX4_isRoofRead 21 = .ok (.getfield 24, 3) := by decide +kernel
theorem dX4_isRoofRead_24 : decode cX4_isRoofRead 24 = .ok (.aload_n 0, 1) := by decide +kernel
theorem dX4_isRoofRead_25 : decode cX4_isRoofRead 25 = .ok (.getfield 28, 3) := by decide +kernel
theorem dX4_isRoofRead_28 : decode cX4_isRoofRead 28 = .ok (.iload_n 1, 1) := by decide +kernel
theorem dX4_isRoofRead_29 : decode cX4_isRoofRead 29 = .ok (.iload_n 3, 1) := by decide +kernel
theorem dX4_isRoofRead_30 : decode cX4_isRoofRead 30 = .ok (.invokevirtual 51, 3) := by decide +kernel
theorem dX4_isRoofRead_33 : decode cX4_isRoofRead 33 = .ok (.aload_n 0, 1) := by decide +kernel
theorem dX4_isRoofRead_34 : decode cX4_isRoofRead 34 = .ok (.getfield 9, 3) := by decide +kernel
theorem dX4_isRoofRead_37 : decode cX4_isRoofRead 37 = .ok (.invokevirtual 55, 3) := by decide +kernel
theorem dX4_isRoofRead_40 : decode cX4_isRoofRead 40 = .ok (.iconst 1, 1) := by decide +kernel
theorem dX4_isRoofRead_41 : decode cX4_isRoofRead 41 = .ok (.ireturn, 1) := by decide +kernel
theorem dX4_isNumberRead_0 : decode cX4_isNumberRead 0 = .ok (.aload_n 0, 1) := by decide +kernel
theorem dX4_isNumberRead_1 : decode cX4_isNumberRead 1 = .ok (.getfield 9, 3) := by decide +kernel
theorem dX4_isNumberRead_4 : decode cX4_isNumberRead 4 = .ok (.iload_n 1, 1) := by decide +kernel
theorem dX4_isNumberRead_5 : decode cX4_isNumberRead 5 = .ok (.iload_n 2, 1) := by decide +kernel
theorem dX4_isNumberRead_6 : decode cX4_isNumberRead 6 = .ok (.invokevirtual 106, 3) := by decide +kernel
theorem dX4_isNumberRead_9 : decode cX4_isNumberRead 9 = .ok (.istore_n 3, 1) := by decide +kernel
theorem dX4_isNumberRead_10 : decode cX4_isNumberRead 10 = .ok (.aload_n 0, 1) := by decide +kernel
theorem dX4_isNumberRead_11 : decode cX4_isNumberRead 11 = .ok (.getfield 24, 3) := by decide +kernel
theorem dX4_isNumberRead_14 : decode cX4_isNumberRead 14 = .ok (.aload_n 0, 1) := by decide +kernel
theorem dX4_isNumberRead_15 : decode cX4_isNumberRead 15 = .ok (.getfield 28, 3) := by decide +kernel
theorem dX4_isNumberRead_18 : decode cX4_isNumberRead 18 = .ok (.iconst 3, 1) := by decide +kernel
theorem dX4_isNumberRead_19 : decode cX4_isNumberRead 19 = .ok (.iload_n 3, 1) := by decide +kernel
theorem dX4_isNumberRead_20 : decode cX4_isNumberRead 20 = .ok (.invokevirtual 51, 3) := by decide +kernel
theorem dX4_isNumberRead_23 : decode cX4_isNumberRead 23 = .ok (.iload_n 3, 1) := by decide +kernel
theorem dX4_isNumberRead_24 : decode cX4_isNumberRead 24 = .ok (.iconst (-1), 1) := by decide +kernel
theorem dX4_isNumberRead_25 : decode cX4_isNumberRead 25 = .ok (.if_icmp .eq 7, 3) := by decide +kernel
theorem dX4_isNumberRead_28 : decode cX4_isNumberRead 28 = .ok (.iconst 1, 1) := by decide +kernel
theorem dX4_isNumberRead_29 : decode cX4_isNumberRead 29 = .ok (.goto 4, 3) := by decide +kernel
theorem dX4_isNumberRead_32 : decode cX4_isNumberRead 32 = .ok (.iconst 0, 1) := by decide +kernel
theorem dX4_isNumberRead_33 : decode cX4_isNumberRead 33 = .ok (.ireturn, 1) := by decide +kernel
theorem dX4_areNotesRead_0 : decode cX4_areNotesRead 0 = .ok (.iconst 0, 1) := by decide +kernel
theorem dX4_areNotesRead_1 : decode cX4_areNotesRead 1 = .ok (.istore_n 1, 1) := by decide +kernel
theorem dX4_areNotesRead_2 : decode cX4_areNotesRead 2 = .ok (.iconst 0, 1) := by decide +kernel
theorem dX4_areNotesRead_3 : decode cX4_areNotesRead 3 = .ok (.istore_n 2, 1) := by decide +kernel
theorem dX4_areNotesRead_4 : decode cX4_areNotesRead 4 = .ok (.aload_n 0, 1) := by decide +kernel
theorem dX4_areNotesRead_5 : decode cX4_areNotesRead 5 = .ok (.getfield 9, 3) := by decide +kernel
theorem dX4_areNotesRead_8 : decode cX4_areNotesRead 8 = .ok (.iconst 0, 1) := by decide +kernel
theorem dX4_areNotesRead_9 : decode cX4_areNotesRead 9 = .ok (.bipush 7, 2) := by decide +kernel
theorem dX4_areNotesRead_11 : decode cX4_areNotesRead 11 = .ok (.invokevirtual 109, 3) := by decide +kernel
theorem dX4_areNotesRead_14 : decode cX4_areNotesRead 14 = .ok (.ifCond .ne 5, 3) := by decide +kernel
theorem dX4_areNotesRead_17 : decode cX4_areNotesRead 17 = .ok (.iconst 0, 1) := by decide +kernel
theorem dX4_areNotesRead_18 : decode cX4_areNotesRead 18 = .ok (.ireturn, 1) := by decide +kernel
theorem dX4_areNotesRead_19 : decode cX4_areNotesRead 19 = .ok (.iload_n 1, 1) := by decide +kernel
theorem dX4_areNotesRead_20 : decode cX4_areNotesRead 20 = .ok (.bipush 8, 2) := by decide +kernel
theorem dX4_areNotesRead_22 : decode cX4_areNotesRead 22 = .ok (.if_icmp .ne 12, 3) := by decide +kernel
theorem dX4_areNotesRead_25 : decode cX4_areNotesRead 25 = .ok (.aload_n 0, 1) := by decide +kernel
theorem dX4_areNotesRead_26 : decode cX4_areNotesRead 26 = .ok (.getfield 9, 3) := by decide +kernel
theorem dX4_areNotesRead_29 : decode cX4_areNotesRead 29 = .ok (.iconst 5, 1) := by decide +kernel
theorem dX4_areNotesRead_30 : decode cX4_areNotesRead 30 = .ok (.invokevirtual 48, 3) := by decide +kernel
theorem dX4_areNotesRead_33 : decode cX4_areNotesRead 33 = .ok (.ireturn, 1) := by decide +kernel
theorem dX4_areNotesRead_34 : decode cX4_areNotesRead 34 = .ok (.iload_n 2, 1) := by decide +kernel
theorem dX4_areNotesRead_35 : decode cX4_areNotesRead 35 = .ok (.aload_n 0, 1) := by decide +kernel
theorem dX4_areNotesRead_36 : decode cX4_areNotesRead 36 = .ok (.getfield 9, 3) := by decide +kernel
theorem dX4_areNotesRead_39 : decode cX4_areNotesRead 39 = .ok (.getfield 112, 3) := by decide +kernel
theorem dX4_areNotesRead_42 : decode cX4_areNotesRead 42 = .ok (.iconst 3, 1) := by decide +kernel
theorem dX4_areNotesRead_43 : decode cX4_areNotesRead 43 = .ok (.iload_n 1, 1) := by decide +kernel
theorem dX4_areNotesRead_44 : decode cX4_areNotesRead 44 = .ok (.imul, 1) := by decide +kernel
theorem dX4_areNotesRead_45 : decode cX4_areNotesRead 45 = .ok (.ishl, 1) := by decide +kernel
theorem dX4_areNotesRead_46 : decode cX4_areNotesRead 46 = .ok (.ior, 1) := by decide +kernel
theorem dX4_areNotesRead_47 : decode cX4_areNotesRead 47 = .ok (.istore_n 2, 1) := by decide +kernel
theorem dX4_areNotesRead_48 : decode cX4_areNotesRead 48 = .ok (.iinc 1 1, 3) := by decide +kernel
theorem dX4_areNotesRead_51 : decode cX4_areNotesRead 51 = .ok (.aload_n 0, 1) := by decide +kernel
theorem dX4_areNotesRead_52 : decode cX4_areNotesRead 52 = .ok (.getfield 9, 3) := by decide +kernel
theorem dX4_areNotesRead_55 : decode cX4_areNotesRead 55 = .ok (.invokevirtual 55, 3) := by decide +kernel
theorem dX4_areNotesRead_58 : decode cX4_areNotesRead 58 = .ok (.iload_n 1, 1) := by decide +kernel
theorem dX4_areNotesRead_59 : decode cX4_areNotesRead 59 = .ok (.bipush 8, 2) := by decide +kernel
theorem dX4_areNotesRead_61 : decode cX4_areNotesRead 61 = .ok (.if_icmp .gt 14, 3) := by decide +kernel
theorem dX4_areNotesRead_64 : decode cX4_areNotesRead 64 = .ok (.aload_n 0, 1) := by decide +kernel
theorem dX4_areNotesRead_65 : decode cX4_areNotesRead 65 = .ok (.getfield 9, 3) := by decide +kernel
theorem dX4_areNotesRead_68 : decode cX4_areNotesRead 68 = .ok (.getfield 37, 3) := by decide +kernel
theorem dX4_areNotesRead_71 : decode cX4_areNotesRead 71 = .ok (.iconst 2, 1) := by decide +kernel
theorem dX4_areNotesRead_72 : decode cX4_areNotesRead 72 = .ok (.if_icmp .eq (-68), 3) := by decide +kernel
theorem dX4_areNotesRead_75 : decode cX4_areNotesRead 75 = .ok (.aload_n 0, 1) := by decide +kernel
theorem dX4_areNotesRead_76 : decode cX4_areNotesRead 76 = .ok (.getfield 24, 3) := by decide +kernel
theorem dX4_areNotesRead_79 : decode cX4_areNotesRead 79 = .ok (.aload_n 0, 1) := by decide +kernel
theorem dX4_areNotesRead_80 : decode cX4_areNotesRead 80 = .ok (.getfield 28, 3) := by decide +kernel
theorem dX4_areNotesRead_83 : decode cX4_areNotesRead 83 = .ok (.iconst 3, 1) := by decide +kernel
theorem dX4_areNotesRead_84 : decode cX4_areNotesRead 84 = .ok (.iload_n 2, 1) := by decide +kernel
theorem dX4_areNotesRead_85 : decode cX4_areNotesRead 85 = .ok (.invokevirtual 51, 3) := by decide +kernel
theorem dX4_areNotesRead_88 : decode cX4_areNotesRead 88 = .ok (.aload_n 0, 1) := by decide +kernel
theorem dX4_areNotesRead_89 : decode cX4_areNotesRead 89 = .ok (.getfield 24, 3) := by decide +kernel
theorem dX4_areNotesRead_92 : decode cX4_areNotesRead 92 = .ok (.aload_n 0, 1) := by decide +kernel
theorem dX4_areNotesRead_93 : decode cX4_areNotesRead 93 = .ok (.getfield 28, 3) := by decide +kernel
theorem dX4_areNotesRead_96 : decode cX4_areNotesRead 96 = .ok (.iconst 4, 1) := by decide +kernel
theorem dX4_areNotesRead_97 : decode cX4_areNotesRead 97 = .ok (.iload_n 1, 1) := by decide +kernel
theorem dX4_areNotesRead_98 : decode cX4_areNotesRead 98 = .ok (.invokevirtual 51, 3) := by decide +kernel
theorem dX4_areNotesRead_101 : decode cX4_areNotesRead 101 = .ok (.iconst 1, 1) := by decide +kernel
theorem dX4_areNotesRead_102 : decode cX4_areNotesRead 102 = .ok (.ireturn, 1) := by decide +kernel
theorem dX5_init_0 : decode cX5_init 0 = .ok (.aload_n 0, 1) := by decide +kernel
theorem dX5_init_1 : decode cX5_init 1 = .ok (.invokespecial 3, 3) := by decide +kernel
theorem dX5_init_4 : decode cX5_init 4 = .ok (.aload_n 0, 1) := by decide +kernel
theorem dX5_init_5 : decode cX5_init 5 = .ok (.aload_n 1, 1) := by decide +kernel
theorem dX5_init_6 : decode cX5_init 6 = .ok (.putfield 9, 3) := by decide +kernel
theorem dX5_init_9 : decode cX5_init 9 = .ok (.aload_n 0, 1) := by decide +kernel
theorem dX5_init_10 : decode cX5_init 10 = .ok (.aload_n 2, 1) := by decide +kernel
theorem dX5_init_11 : decode cX5_init 11 = .ok (.putfield 15, 3) := by decide +kernel
theorem dX5_init_14 : decode cX5_init 14 = .ok (.return_, 1) := by decide +kernel
theorem dX5_isRead_0 : decode cX5_isRead 0 = .ok (.aload_n 0, 1) := by decide +kernel
theorem dX5_isRead_1 : decode cX5_isRead 1 = .ok (.getfield 15, 3) := by decide +kernel
theorem dX5_isRead_4 : decode cX5_isRead 4 = .ok (.invokevirtual 19, 3) := by decide +kernel
theorem dX5_isRead_7 : decode cX5_isRead 7 = .ok (.aload_n 0, 1) := by decide +kernel
theorem dX5_isRead_8 : decode cX5_isRead 8 = .ok (.getfield 9, 3) := by decide +kernel
theorem dX5_isRead_11 : decode cX5_isRead 11 = .ok (.invokevirtual 24, 3) := by decide +kernel
theorem dX5_isRead_14 : decode cX5_isRead 14 = .ok (.iconst 0, 1) := by decide +kernel
theorem dX5_isRead_15 : decode cX5_isRead 15 = .ok (.istore_n 1, 1) := by decide +kernel
theorem dX5_isRead_16 : decode cX5_isRead 16 = .ok (.iload_n 1, 1) := by decide +kernel
theorem dX5_isRead_17 : decode cX5_isRead 17 = .ok (.sipush 800, 3) := by decide +kernel
theorem dX5_isRead_20 : decode cX5_isRead 20 = .ok (.if_icmp .ge 28, 3) := by decide +kernel
theorem dX5_isRead_23 : decode cX5_isRead 23 = .ok (.aload_n 0, 1) := by decide +kernel
theorem dX5_isRead_24 : decode cX5_isRead 24 = .ok (.getfield 9, 3) := by decide +kernel
theorem dX5_isRead_27 : decode cX5_isRead 27 = .ok (.getfield 29, 3) := by decide +kernel
theorem dX5_isRead_30 : decode cX5_isRead 30 = .ok (.ifCond .eq 18, 3) := by decide +kernel
theorem dX5_isRead_33 : decode cX5_isRead 33 = .ok (.aload_n 0, 1) := by decide +kernel
theorem dX5_isRead_34 : decode cX5_isRead 34 = .ok (.invokevirtual 33, 3) := by decide +kernel
theorem dX5_isRead_37 : decode cX5_isRead 37 = .ok (.ifCond .ne 5, 3) := by decide +kernel
theorem dX5_isRead_40 : decode cX5_isRead 40 = .ok (.iconst 0, 1) := by decide +kernel
theorem dX5_isRead_41 : decode cX5_isRead 41 = .ok (.ireturn, 1) := by decide +kernel
theorem dX5_isRead_42 : decode cX5_isRead 42 = .ok (.iinc 1 1, 3) := by decide +kernel
theorem dX5_isRead_45 : decode cX5_isRead 45 = .ok (.goto (-29), 3) := by decide +kernel
theorem dX5_isRead_48 : decode cX5_isRead 48 = .ok (.aload_n 0, 1) := by decide +kernel
theorem dX5_isRead_49 : decode cX5_isRead 49 = .ok (.getfield 15, 3) := by decide +kernel
theorem dX5_isRead_52 : decode cX5_isRead 52 = .ok (.getfield 37, 3) := by decide +kernel
theorem dX5_isRead_55 : decode cX5_isRead 55 = .ok (.iconst 2, 1) := by decide +kernel
theorem dX5_isRead_56 : decode cX5_isRead 56 = .ok (.if_icmp .ge 13, 3) := by decide +kernel
theorem dX5_isRead_59 : decode cX5_isRead 59 = .ok (.aload_n 0, 1) := by decide +kernel
theorem dX5_isRead_60 : decode cX5_isRead 60 = .ok (.getfield 9, 3) := by decide +kernel
theorem dX5_isRead_63 : decode cX5_isRead 63 = .ok (.bipush 6, 2) := by decide +kernel
theorem dX5_isRead_65 : decode cX5_isRead 65 = .ok (.invokevirtual 40, 3) := by decide +kernel
theorem dX5_isRead_68 : decode cX5_isRead 68 = .ok (.ireturn, 1) := by decide +kernel
theorem dX5_isRead_69 : decode cX5_isRead 69 = .ok (.aload_n 0, 1) := by decide +kernel
theorem dX5_isRead_70 : decode cX5_isRead 70 = .ok (.getfield 15, 3) := by decide +kernel
theorem dX5_isRead_73 : decode cX5_isRead 73 = .ok (.getfield 44, 3) := by decide +kernel
theorem dX5_isRead_76 : decode cX5_isRead 76 = .ok (.aload_n 0, 1) := by decide +kernel
theorem dX5_isRead_77 : decode cX5_isRead 77 = .ok (.getfield 15, 3) := by decide +kernel
theorem dX5_isRead_80 : decode cX5_isRead 80 = .ok (.invokevirtual 48, 3) := by decide +kernel
theorem dX5_isRead_83 : decode cX5_isRead 83 = .ok (.iconst 1, 1) := by decide +kernel
theorem dX5_isRead_84 : decode cX5_isRead 84 = .ok (.ireturn, 1) := by decide +kernel
theorem dX5_isStatementRead_0 : decode cX5_isStatementRead 0 = .ok (.aload_n 0, 1) := by decide +kernel
theorem dX5_isStatementRead_1 : decode cX5_isStatementRead 1 = .ok (.getfield 9, 3) := by decide +kernel
theorem dX5_isStatementRead_4 : decode cX5_isStatementRead 4 = .ok (.ldc 54, 2) := by decide +kernel
theorem dX5_isStatementRead_6 : decode cX5_isStatementRead 6 = .ok (.invokevirtual 56, 3) := by decide +kernel
theorem dX5_isStatementRead_9 : decode cX5_isStatementRead 9 = .ok (.ifCond .eq 8, 3) := by decide +kernel
theorem dX5_isStatementRead_12 : decode cX5_isStatementRead 12 = .ok (.aload_n 0, 1) := by decide +kernel
theorem dX5_isStatementRead_13 : decode cX5_isStatementRead 13 = .ok (.invokevirtual 60, 3) := by decide +kernel
theorem dX5_isStatementRead_16 : decode cX5_isStatementRead 16 = .ok (.ireturn, 1) := by decide +kernel
theorem dX5_isStatementRead_17 : decode cX5_isStatementRead 17 = .ok (.aload_n 0, 1) := by decide +kernel
theorem dX5_isStatementRead_18 : decode cX5_isStatementRead 18 = .ok (.getfield 9, 3) := by decide +kernel
theorem dX5_isStatementRead_21 : decode cX5_isStatementRead 21 = .ok (.ldc 63, 2) := by decide +kernel
theorem dX5_isStatementRead_23 : decode cX5_isStatementRead 23 = .ok (.invokevirtual 56, 3) := by decide +kernel
theorem dX5_isStatementRead_26 : decode cX5_isStatementRead 26 = .ok (.ifCond .eq 8, 3) := by decide +kernel
theorem dX5_isStatementRead_29 : decode cX5_isStatementRead 29 = .ok (.aload_n 0, 1) := by decide +kernel
theorem dX5_isStatementRead_30 : decode cX5_isStatementRead 30 = .ok (.invokevirtual 65, 3) := by decide +kernel
theorem dX5_isStatementRead_33 : decode cX5_isStatementRead 33 = .ok (.ireturn, 1) := by decide +kernel
theorem dX5_isStatementRead_34 : decode cX5_isStatementRead 34 = .ok (.aload_n 0, 1) := by decide +kernel
theorem dX5_isStatementRead_35 : decode cX5_isStatementRead 35 = .ok (.getfield 9, 3) := by decide +kernel
theorem dX5_isStatementRead_38 : decode cX5_isStatementRead 38 = .ok (.invokevirtual 68, 3) := by decide +kernel
theorem dX5_isStatementRead_41 : decode cX5_isStatementRead 41 = .ok (.istore_n 1, 1) := by decide +kernel
theorem dX5_isStatementRead_42 : decode cX5_isStatementRead 42 = .ok (.iload_n 1, 1) := by decide +kernel
theorem dX5_isStatementRead_43 : decode cX5_isStatementRead 43 = .ok (.iconst (-1), 1) := by decide +kernel
theorem dX5_isStatementRead_44 : decode cX5_isStatementRead 44 = .ok (.if_icmp .ne 14, 3) := by decide +kernel
theorem dX5_isStatementRead_47 : decode cX5_isStatementRead 47 = .ok (.aload_n 0, 1) := by decide +kernel
theorem dX5_isStatementRead_48 : decode cX5_isStatementRead 48 = .ok (.getfield 9, 3) := by decide +kernel
theorem dX5_isStatementRead_51 : decode cX5_isStatementRead 51 = .ok (.iconst 1, 1) := by decide +kernel
theorem dX5_isStatementRead_52 : decode cX5_isStatementRead 52 = .ok (.invokevirtual 40, 3) := by decide +kernel
theorem dX5_isStatementRead_55 : decode cX5_isStatementRead 55 = .ok (.goto 8, 3) := by decide +kernel
theorem dX5_isStatementRead_58 : decode cX5_isStatementRead 58 = .ok (.aload_n 0, 1) := by decide +kernel
theorem dX5_isStatementRead_59 : decode cX5_isStatementRead 59 = .ok (.iload_n 1, 1) := by decide +kernel
theorem dX5_isStatementRead_60 : decode cX5_isStatementRead 60 = .ok (.invokevirtual 72, 3) := by decide +kernel
theorem dX5_isStatementRead_63 : decode cX5_isStatementRead 63 = .ok (.ireturn, 1) := by decide +kernel
theorem dX5_isRoofRead_0 : decode cX5_isRoofRead 0 = .ok (.aload_n 0, 1) := by decide +kernel
theorem dX5_isRoofRead_1 : decode cX5_isRoofRead 1 = .ok (.getfield 15, 3) := by decide +kernel
theorem dX5_isRoofRead_4 : decode cX5_isRoofRead 4 = .ok (.getfield 37, 3) := by decide +kernel
theorem dX5_isRoofRead_7 : decode cX5_isRoofRead 7 = .ok (.bipush 10, 2) := by decide +kernel
theorem dX5_isRoofRead_9 : decode cX5_isRoofRead 9 = .ok (.if_icmp .lt 12, 3) := by decide +kernel
theorem dX5_isRoofRead_12 : decode cX5_isRoofRead 12 = .ok (.aload_n 0, 1) := by decide +kernel
theorem dX5_isRoofRead_13 : decode cX5_isRoofRead 13 = .ok (.getfield 9, 3) := by decide +kernel
theorem dX5_isRoofRead_16 : decode cX5_isRoofRead 16 = .ok (.iconst 5, 1) := by decide +kernel
theorem dX5_isRoofRead_17 : decode cX5_isRoofRead 17 = .ok (.invokevirtual 40, 3) := by decide +kernel
theorem dX5_isRoofRead_20 : decode cX5_isRoofRead 20 = .ok (.ireturn, 1) := by decide +kernel
theorem dX5_isRoofRead_21 : decode cX5_isRoofRead 21 = .ok (.aload_n 0, 1) := by decide +kernel
theorem dX5_isRoofRead_22 : decode cX5_isRoofRead 22 = .ok (.getfield 9, 3) := by decide +kernel
theorem dX5_isRoofRead_25 : decode cX5_isRoofRead 25 = .ok (.invokevirtual 75, 3) := by decide +kernel
theorem dX5_isRoofRead_28 : decode cX5_isRoofRead 28 = .ok (.aload_n 0, 1) := by decide +kernel
theorem dX5_isRoofRead_29 : decode cX5_isRoofRead 29 = .ok (.getfield 9, 3) := by decide +kernel
theorem dX5_isRoofRead_32 : decode cX5_isRoofRead 32 = .ok (.invokevirtual 78, 3) := by decide +kernel
theorem dX5_isRoofRead_35 : decode cX5_isRoofRead 35 = .ok (.istore_n 1, 1) := by decide +kernel
theorem dX5_isRoofRead_36 : decode cX5_isRoofRead 36 = .ok (.iload_n 1, 1) := by decide +kernel
theorem dX5_isRoofRead_37 : decode cX5_isRoofRead 37 = .ok (.iconst (-1), 1) := by decide +kernel
theorem dX5_isRoofRead_38 : decode cX5_isRoofRead 38 = .ok (.if_icmp .ne 5, 3) := by decide +kernel
theorem dX5_isRoofRead_41 : decode cX5_isRoofRead 41 = .ok (.iconst 0, 1) := by decide +kernel
theorem dX5_isRoofRead_42 : decode cX5_isRoofRead 42 = .ok (.ireturn, 1) := by decide +kernel
theorem dX5_isRoofRead_43 : decode cX5_isRoofRead 43 = .ok (.aload_n 0, 1) := by decide +kernel
theorem dX5_isRoofRead_44 : decode cX5_isRoofRead 44 = .ok (.getfield 15, 3) := by decide +kernel
theorem dX5_isRoofRead_47 : decode cX5_isRoofRead 47 = .ok (.iload_n 1, 1) := by decide +kernel
theorem dX5_isRoofRead_48 : decode cX5_isRoofRead 48 = .ok (.invokevirtual 81, 3) := by decide +kernel
theorem dX5_isRoofRead_51 : decode cX5_isRoofRead 51 = .ok (.iconst (-1), 1) := by decide +kernel
theorem dX5_isRoofRead_52 : decode cX5_isRoofRead 52 = .ok (.if_icmp .eq 12, 3) := by decide +kernel
theorem dX5_isRoofRead_55 : decode cX5_isRoofRead 55 = .ok (.aload_n 0, 1) := by decide +kernel
theorem dX5_isRoofRead_56 : decode cX5_isRoofRead 56 = .ok (.getfield 9, 3) := by decide +kernel
theorem dX5_isRoofRead_59 : decode cX5_isRoofRead 59 = .ok (.iconst 3, 1) := by decide +kernel
theorem dX5_isRoofRead_60 : decode cX5_isRoofRead 60 = .ok (.invokevirtual 40, 3) := by decide +kernel
theorem dX5_isRoofRead_63 : decode cX5_isRoofRead 63 = .ok (.ireturn, 1) := by decide +kernel
theorem dX5_isRoofRead_64 : decode cX5_isRoofRead 64 = .ok (.aload_n 0, 1) := by decide +kernel
theorem dX5_isRoofRead_65 : decode cX5_isRoofRead 65 = .ok (.getfield 9, 3) := by decide +kernel
theorem dX5_isRoofRead_68 : decode cX5_isRoofRead 68 = .ok (.invokevirtual 75, 3) := by decide +kernel
theorem dX5_isRoofRead_71 : decode cX5_isRoofRead 71 = .ok (.aload_n 0, 1) := by decide +kernel
theorem dX5_isRoofRead_72 : decode cX5_isRoofRead 72 = .ok (.getfield 9, 3) := by decide +kernel
theorem dX5_isRoofRead_75 : decode cX5_isRoofRead 75 = .ok (.iconst 1, 1) := by decide +kernel
theorem dX5_isRoofRead_76 : decode cX5_isRoofRead 76 = .ok (.bipush 8, 2) := by decide +kernel
theorem dX5_isRoofRead_78 : decode cX5_isRoofRead 78 = .ok (.invokevirtual 85, 3) := by decide +kernel
theorem dX5_isRoofRead_81 : decode cX5_isRoofRead 81 = .ok (.istore_n 2, 1) := by decide +kernel
theorem dX5_isRoofRead_82 : decode cX5_isRoofRead 82 = .ok (.iload_n 2, 1) := by decide +kernel
theorem dX5_isRoofRead_83 : decode cX5_isRoofRead 83 = .ok (.iconst (-1), 1) := by decide +kernel
theorem dX5_isRoofRead_84 : decode cX5_isRoofRead 84 = .ok (.if_icmp .ne 7, 3) := by decide +kernel
theorem dX5_isRoofRead_87 : decode cX5_isRoofRead 87 = .ok (.iconst (-1), 1) := by decide +kernel
theorem dX5_isRoofRead_88 : decode cX5_isRoofRead 88 = .ok (.goto 13, 3) := by decide +kernel
theorem dX5_isRoofRead_91 : decode cX5_isRoofRead 91 = .ok (.aload_n 0, 1) := by decide +kernel
theorem dX5_isRoofRead_92 : decode cX5_isRoofRead 92 = .ok (.getfield 9, 3) := by decide +kernel
theorem dX5_isRoofRead_95 : decode cX5_isRoofRead 95 = .ok (.iconst 0, 1) := by decide +kernel
theorem dX5_isRoofRead_96 : decode cX5_isRoofRead 96 = .ok (.bipush 9, 2) := by decide +kernel
theorem dX5_isRoofRead_98 : decode cX5_isRoofRead 98 = .ok (.invokevirtual 85, 3) := by decide +kernel
theorem dX5_isRoofRead_101 : decode cX5_isRoofRead 101 = .ok (.istore_n 3, 1) := by decide +kernel
theorem dX5_isRoofRead_102 : decode cX5_isRoofRead 102 = .ok (.iload_n 3, 1) := by decide +kernel
theorem dX5_isRoofRead_103 : decode cX5_isRoofRead 103 = .ok (.iconst (-1), 1) := by decide +kernel
theorem dX5_isRoofRead_104 : decode cX5_isRoofRead 104 = .ok (.if_icmp .ne 7, 3) := by decide +kernel
theorem dX5_isRoofRead_107 : decode cX5_isRoofRead 107 = .ok (.iconst (-1), 1) := by decide +kernel
theorem dX5_isRoofRead_108 : decode cX5_isRoofRead 108 = .ok (.goto 13, 3) := by decide +kernel
theorem dX5_isRoofRead_111 : decode cX5_isRoofRead 111 = .ok (.aload_n 0, 1) := by decide +kernel
theorem dX5_isRoofRead_112 : decode cX5_isRoofRead 112 = .ok (.getfield 9, 3) := by decide +kernel
theorem dX5_isRoofRead_115 : decode cX5_isRoofRead 115 = .ok (.iconst 0, 1) := by decide +kernel
theorem dX5_isRoofRead_116 : decode cX5_isRoofRead 116 = .ok (.bipush 9, 2) := by decide +kernel
theorem dX5_isRoofRead_118 : decode cX5_isRoofRead 118 = .ok (.invokevirtual 85, 3) := by decide +kernel
theorem dX5_isRoofRead_121 : decode cX5_isRoofRead 121 = .ok (.istore 4, 2) := by decide +kernel
theorem dX5_isRoofRead_123 : decode cX5_isRoofRead 123 = .ok (.iload 4, 2) := by decide +kernel
theorem dX5_isRoofRead_125 : decode cX5_isRoofRead 125 = .ok (.iconst (-1), 1) := by decide +kernel
theorem dX5_isRoofRead_126 : decode cX5_isRoofRead 126 = .ok (.if_icmp .ne 7, 3) := by decide +kernel
theorem dX5_isRoofRead_129 : decode cX5_isRoofRead 129 = .ok (.iconst (-1), 1) := by decide +kernel
theorem dX5_isRoofRead_130 : decode cX5_isRoofRead 130 = .ok (.goto 14, 3) := by decide +kernel
theorem dX5_isRoofRead_133 : decode cX5_isRoofRead 133 = .ok (.aload_n 0, 1) := by decide +kernel
theorem dX5_isRoofRead_134 : decode cX5_isRoofRead 134 = .ok (.getfield 9, 3) := by decide +kernel
theorem dX5_isRoofRead_137 : decode cX5_isRoofRead 137 = .ok (.iconst 0, 1) := by decide +kernel
theorem dX5_isRoofRead_138 : decode cX5_isRoofRead 138 = .ok (.sipush 999, 3) := by decide +kernel
theorem dX5_isRoofRead_141 : decode cX5_isRoofRead 141 = .ok (.invokevirtual 85, 3) := by decide +kernel
theorem dX5_isRoofRead_144 : decode cX5_isRoofRead 144 = .ok (.istore 5, 2) := by decide +kernel
theorem dX5_isRoofRead_146 : decode cX5_isRoofRead 146 = .ok (.iload 5, 2) := by decide +kernel
theorem dX5_isRoofRead_148 : decode cX5_isRoofRead 148 = .ok (.iconst (-1), 1) := by decide +kernel
theorem dX5_isRoofRead_149 : decode cX5_isRoofRead 149 = .ok (.if_icmp .eq 13, 3) := by decide +kernel
theorem dX5_isRoofRead_152 : decode cX5_isRoofRead 152 = .ok (.aload_n 0, 1) := by decide +kernel
theorem dX5_isRoofRead_153 : decode cX5_isRoofRead 153 = .ok (.getfield 9, 3) := by decide +kernel
theorem dX5_isRoofRead_156 : decode cX5_isRoofRead 156 = .ok (.invokevirtual 89, 3) := by decide +kernel
theorem dX5_isRoofRead_159 : decode cX5_isRoofRead 159 = .ok (.ifCond .ne 5, 3) := by decide +kernel
theorem dX5_isRoofRead_162 : decode cX5_isRoofRead 162 = .ok (.iconst 0, 1) := by decide +kernel
theorem dX5_isRoofRead_163 : decode cX5_isRoofRead 163 = .ok (.ireturn, 1) := by decide +kernel
theorem dX5_isRoofRead_164 : decode cX5_isRoofRead 164 = .ok (.aload_n 0, 1) := by decide +kernel
theorem dX5_isRoofRead_165 : decode cX5_isRoofRead 165 = .ok (.getfield 15, 3) := by decide +kernel
theorem dX5_isRoofRead_168 : decode cX5_isRoofRead 168 = .ok (.iload_n 1, 1) := by decide +kernel
theorem dX5_isRoofRead_169 : decode cX5_isRoofRead 169 = .ok (.iload_n 2, 1) := by decide +kernel
theorem dX5_isRoofRead_170 : decode cX5_isRoofRead 170 = .ok (.iload_n 3, 1) := by decide +kernel
theorem dX5_isRoofRead_171 : decode cX5_isRoofRead 171 = .ok (.iload 4, 2) := by decide +kernel
theorem dX5_isRoofRead_173 : decode cX5_isRoofRead 173 = .ok (.iload 5, 2) := by decide +kernel
theorem dX5_isRoofRead_175 : decode cX5_isRoofRead 175 = .ok (.invokevirtual 92, 3) := by decide +kernel
theorem dX5_isRoofRead_178 : decode cX5_isRoofRead 178 = .ok (.iconst 1, 1) := by decide +kernel
theorem dX5_isRoofRead_179 : decode cX5_isRoofRead 179 = .ok (.ireturn, 1) := by decide +kernel
theorem dX5_isWayRead_0 : decode cX5_isWayRead 0 = .ok (.aload_n 0, 1) := by decide +kernel
theorem dX5_isWayRead_1 : decode cX5_isWayRead 1 = .ok (.getfield 15, 3) := by decide +kernel
theorem dX5_isWayRead_4 : decode cX5_isWayRead 4 = .ok (.getfield 96, 3) := by decide +kernel
theorem dX5_isWayRead_7 : decode cX5_isWayRead 7 = .ok (.bipush 20, 2) := by decide +kernel
theorem dX5_isWayRead_9 : decode cX5_isWayRead 9 = .ok (.if_icmp .lt 12, 3) := by decide +kernel
theorem dX5_isWayRead_12 : decode cX5_isWayRead 12 = .ok (.aload_n 0, 1) := by decide +kernel
theorem dX5_isWayRead_13 : decode cX5_isWayRead 13 = .ok (.getfield 9, 3) := by decide +kernel
theorem dX5_isWayRead_16 : decode cX5_isWayRead 16 = .ok (.iconst 5, 1) := by decide +kernel
theorem dX5_isWayRead_17 : decode cX5_isWayRead 17 = .ok (.invokevirtual 40, 3) := by decide +kernel
theorem dX5_isWayRead_20 : decode cX5_isWayRead 20 = .ok (.ireturn, 1) := by decide +kernel
theorem dX5_isWayRead_21 : decode cX5_isWayRead 21 = .ok (.aload_n 0, 1) := by decide +kernel
theorem dX5_isWayRead_22 : decode cX5_isWayRead 22 = .ok (.getfield 9, 3) := by decide +kernel
theorem dX5_isWayRead_25 : decode cX5_isWayRead 25 = .ok (.invokevirtual 75, 3) := by decide +kernel
theorem dX5_isWayRead_28 : decode cX5_isWayRead 28 = .ok (.aload_n 0, 1) := by decide +kernel
theorem dX5_isWayRead_29 : decode cX5_isWayRead 29 = .ok (.getfield 9, 3) := by decide +kernel
theorem dX5_isWayRead_32 : decode cX5_isWayRead 32 = .ok (.aload_n 0, 1) := by decide +kernel
theorem dX5_isWayRead_33 : decode cX5_isWayRead 33 = .ok (.getfield 15, 3) := by decide +kernel
theorem dX5_isWayRead_36 : decode cX5_isWayRead 36 = .ok (.iconst (-1), 1) := by decide +kernel
theorem dX5_isWayRead_37 : decode cX5_isWayRead 37 = .ok (.invokevirtual 99, 3) := by decide +kernel
theorem dX5_isWayRead_40 : decode cX5_isWayRead 40 = .ok (.istore_n 1, 1) := by decide +kernel
theorem dX5_isWayRead_41 : decode cX5_isWayRead 41 = .ok (.iload_n 1, 1) := by decide +kernel
theorem dX5_isWayRead_42 : decode cX5_isWayRead 42 = .ok (.iconst (-1), 1) := by decide +kernel
theorem dX5_isWayRead_43 : decode cX5_isWayRead 43 = .ok (.if_icmp .ne 5, 3) := by decide +kernel
theorem dX5_isWayRead_46 : decode cX5_isWayRead 46 = .ok (.iconst 0, 1) := by decide +kernel
theorem dX5_isWayRead_47 : decode cX5_isWayRead 47 = .ok (.ireturn, 1) := by decide +kernel
theorem dX5_isWayRead_48 : decode cX5_isWayRead 48 = .ok (.aload_n 0, 1) := by decide +kernel
theorem dX5_isWayRead_49 : decode cX5_isWayRead 49 = .ok (.getfield 9, 3) := by decide +kernel
theorem dX5_isWayRead_52 : decode cX5_isWayRead 52 = .ok (.invokevirtual 75, 3) := by decide +kernel
theorem dX5_isWayRead_55 : decode cX5_isWayRead 55 = .ok (.aload_n 0, 1) := by decide +kernel
theorem dX5_isWayRead_56 : decode cX5_isWayRead 56 = .ok (.getfield 9, 3) := by decide +kernel
theorem dX5_isWayRead_59 : decode cX5_isWayRead 59 = .ok (.aload_n 0, 1) := by decide +kernel
theorem dX5_isWayRead_60 : decode cX5_isWayRead 60 = .ok (.getfield 15, 3) := by decide +kernel
theorem dX5_isWayRead_63 : decode cX5_isWayRead 63 = .ok (.iload_n 1, 1) := by decide +kernel
theorem dX5_isWayRead_64 : decode cX5_isWayRead 64 = .ok (.invokevirtual 99, 3) := by decide +kernel
theorem dX5_isWayRead_67 : decode cX5_isWayRead 67 = .ok (.istore_n 2, 1) := by decide +kernel
theorem dX5_isWayRead_68 : decode cX5_isWayRead 68 = .ok (.iload_n 2, 1) := by decide +kernel
theorem dX5_isWayRead_69 : decode cX5_isWayRead 69 = .ok (.iconst (-1), 1) := by decide +kernel
theorem dX5_isWayRead_70 : decode cX5_isWayRead 70 = .ok (.if_icmp .ne 5, 3) := by decide +kernel
theorem dX5_isWayRead_73 : decode cX5_isWayRead 73 = .ok (.iconst 0, 1) := by decide +kernel
theorem dX5_isWayRead_74 : decode cX5_isWayRead 74 = .ok (.ireturn, 1) := by decide +kernel
theorem dX5_isWayRead_75 : decode cX5_isWayRead 75 = .ok (.aload_n 0, 1) := by decide +kernel
theorem dX5_isWayRead_76 : decode cX5_isWayRead 76 = .ok (.getfield 15, 3) := by decide +kernel
theorem dX5_isWayRead_79 : decode cX5_isWayRead 79 = .ok (.iload_n 1, 1) := by decide +kernel
theorem dX5_isWayRead_80 : decode cX5_isWayRead 80 = .ok (.iload_n 2, 1) := by decide +kernel
theorem dX5_isWayRead_81 : decode cX5_isWayRead 81 = .ok (.invokevirtual 103, 3) := by decide +kernel
theorem dX5_isWayRead_84 : decode cX5_isWayRead 84 = .ok (.iconst (-1), 1) := by decide +kernel
theorem dX5_isWayRead_85 : decode cX5_isWayRead 85 = .ok (.if_icmp .eq 12, 3) := by decide +kernel
theorem dX5_isWayRead_88 : decode cX5_isWayRead 88 = .ok (.aload_n 0, 1) := by decide +kernel
theorem dX5_isWayRead_89 : decode cX5_isWayRead 89 = .ok (.getfield 9, 3) := by decide +kernel
theorem dX5_isWayRead_92 : decode cX5_isWayRead 92 = .ok (.iconst 4, 1) := by decide +kernel
theorem dX5_isWayRead_93 : decode cX5_isWayRead 93 = .ok (.invokevirtual 40, 3) := by decide +kernel
theorem dX5_isWayRead_96 : decode cX5_isWayRead 96 = .ok (.ireturn, 1) := by decide +kernel
theorem dX5_isWayRead_97 : decode cX5_isWayRead 97 = .ok (.aload_n 0, 1) := by decide +kernel
theorem dX5_isWayRead_98 : decode cX5_isWayRead 98 = .ok (.getfield 9, 3) := by decide +kernel
theorem dX5_isWayRead_101 : decode cX5_isWayRead 101 = .ok (.invokevirtual 75, 3) := by decide +kernel
theorem dX5_isWayRead_104 : decode cX5_isWayRead 104 = .ok (.aload_n 0, 1) := by decide +kernel
theorem dX5_isWayRead_105 : decode cX5_isWayRead 105 = .ok (.getfield 9, 3) := by decide +kernel
theorem dX5_isWayRead_108 : decode cX5_isWayRead 108 = .ok (.iconst 1, 1) := by decide +kernel
theorem dX5_isWayRead_109 : decode cX5_isWayRead 109 = .ok (.bipush 9, 2) := by decide +kernel
theorem dX5_isWayRead_111 : decode cX5_isWayRead 111 = .ok (.invokevirtual 85, 3) := by decide +kernel
theorem dX5_isWayRead_114 : decode cX5_isWayRead 114 = .ok (.istore_n 3, 1) := by decide +kernel
theorem dX5_isWayRead_115 : decode cX5_isWayRead 115 = .ok (.iload_n 3, 1) := by decide +kernel
theorem dX5_isWayRead_116 : decode cX5_isWayRead 116 = .ok (.iconst (-1), 1) := by decide +kernel
theorem dX5_isWayRead_117 : decode cX5_isWayRead 117 = .ok (.if_icmp .eq 13, 3) := by decide +kernel
theorem dX5_isWayRead_120 : decode cX5_isWayRead 120 = .ok (.aload_n 0, 1) := by decide +kernel
theorem dX5_isWayRead_121 : decode cX5_isWayRead 121 = .ok (.getfield 9, 3) := by decide +kernel
theorem dX5_isWayRead_124 : decode cX5_isWayRead 124 = .ok (.invokevirtual 89, 3) := by decide +kernel
theorem dX5_isWayRead_127 : decode cX5_isWayRead 127 = .ok (.ifCond .ne 5, 3) := by decide +kernel
theorem dX5_isWayRead_130 : decode cX5_isWayRead 130 = .ok (.iconst 0, 1) := by decide +kernel
theorem dX5_isWayRead_131 : decode cX5_isWayRead 131 = .ok (.ireturn, 1) := by decide +kernel
theorem dX5_isWayRead_132 : decode cX5_isWayRead 132 = .ok (.aload_n 0, 1) := by decide +kernel
theorem dX5_isWayRead_133 : decode cX5_isWayRead 133 = .ok (.getfield 15, 3) := by decide +kernel
theorem dX5_isWayRead_136 : decode cX5_isWayRead 136 = .ok (.iload_n 1, 1) := by decide +kernel
theorem dX5_isWayRead_137 : decode cX5_isWayRead 137 = .ok (.iload_n 2, 1) := by decide +kernel
theorem dX5_isWayRead_138 : decode cX5_isWayRead 138 = .ok (.iload_n 3, 1) := by decide +kernel
theorem dX5_isWayRead_139 : decode cX5_isWayRead 139 = .ok (.invokevirtual 106, 3) := by decide +kernel
theorem dX5_isWayRead_142 : decode cX5_isWayRead 142 = .ok (.iconst 1, 1) := by decide +kernel
theorem dX5_isWayRead_143 : decode cX5_isWayRead 143 = .ok (.ireturn, 1) := by decide +kernel
theorem dX5_isSettingRead_0 : decode cX5_isSettingRead 0 = .ok (.aload_n 0, 1) := by decide +kernel
theorem dX5_isSettingRead_1 : decode cX5_isSettingRead 1 = .ok (.getfield 9, 3) := by decide +kernel
theorem dX5_isSettingRead_4 : decode cX5_isSettingRead 4 = .ok (.invokevirtual 75, 3) := by decide +kernel
theorem dX5_isSettingRead_7 : decode cX5_isSettingRead 7 = .ok (.aload_n 0, 1) := by decide +kernel
theorem dX5_isSettingRead_8 : decode cX5_isSettingRead 8 = .ok (.getfield 9, 3) := by decide +kernel
theorem dX5_isSettingRead_11 : decode cX5_isSettingRead 11 = .ok (.iload_n 1, 1) := by decide +kernel
theorem dX5_isSettingRead_12 : decode cX5_isSettingRead 12 = .ok (.invokestatic 110, 3) := by decide +kernel
theorem dX5_isSettingRead_15 : decode cX5_isSettingRead 15 = .ok (.iload_n 1, 1) := by decide +kernel
theorem dX5_isSettingRead_16 : decode cX5_isSettingRead 16 = .ok (.invokestatic 113, 3) := by decide +kernel
theorem dX5_isSettingRead_19 : decode cX5_isSettingRead 19 = .ok (.invokevirtual 85, 3) := by decide +kernel
theorem dX5_isSettingRead_22 : decode cX5_isSettingRead 22 = .ok (.istore_n 2, 1) := by decide +kernel
theorem dX5_isSettingRead_23 : decode cX5_isSettingRead 23 = .ok (.iload_n 2, 1) := by decide +kernel
theorem dX5_isSettingRead_24 : decode cX5_isSettingRead 24 = .ok (.iconst (-1), 1) := by decide +kernel
theorem dX5_isSettingRead_25 : decode cX5_isSettingRead 25 = .ok (.if_icmp .eq 13, 3) := by decide +kernel
theorem dX5_isSettingRead_28 : decode cX5_isSettingRead 28 = .ok (.aload_n 0, 1) := by decide +kernel
theorem dX5_isSettingRead_29 : decode cX5_isSettingRead 29 = .ok (.getfield 9, 3) := by decide +kernel
theorem dX5_isSettingRead_32 : decode cX5_isSettingRead 32 = .ok (.invokevirtual 89, 3) := by decide +kernel
theorem dX5_isSettingRead_35 : decode cX5_isSettingRead 35 = .ok (.ifCond .ne 5, 3) := by decide +kernel
theorem dX5_isSettingRead_38 : decode cX5_isSettingRead 38 = .ok (.iconst 0, 1) := by decide +kernel
theorem dX5_isSettingRead_39 : decode cX5_isSettingRead 39 = .ok (.ireturn, 1) := by decide +kernel
theorem dX5_isSettingRead_40 : decode cX5_isSettingRead 40 = .ok (.aload_n 0, 1) := by decide +kernel
theorem dX5_isSettingRead_41 : decode cX5_isSettingRead 41 = .ok (.getfield 15, 3) := by decide +kernel
theorem dX5_isSettingRead_44 : decode cX5_isSettingRead 44 = .ok (.iload_n 1, 1) := by decide +kernel
theorem dX5_isSettingRead_45 : decode cX5_isSettingRead 45 = .ok (.iload_n 2, 1) := by decide +kernel
theorem dX5_isSettingRead_46 : decode cX5_isSettingRead 46 = .ok (.invokevirtual 116, 3) := by decide +kernel
theorem dX5_isSettingRead_49 : decode cX5_isSettingRead 49 = .ok (.iconst 1, 1) := by decide +kernel
theorem dX5_isSettingRead_50 : decode cX5_isSettingRead 50 = .ok (.ireturn, 1) := by decide +kernel
theorem dX6_causeOf_0 : decode cX6_causeOf 0 = .ok (.aload_n 0, 1) := by decide +kernel
theorem dX6_causeOf_1 : decode cX6_causeOf 1 = .ok (.getfield 9, 3) := by decide +kernel
theorem dX6_causeOf_4 : decode cX6_causeOf 4 = .ok (.iload_n 1, 1) := by decide +kernel
theorem dX6_causeOf_5 : decode cX6_causeOf 5 = .ok (.iconst 3, 1) := by decide +kernel
theorem dX6_causeOf_6 : decode cX6_causeOf 6 = .ok (.invokevirtual 15, 3) := by decide +kernel
theorem dX6_causeOf_9 : decode cX6_causeOf 9 = .ok (.istore_n 2, 1) := by decide +kernel
theorem dX6_causeOf_10 : decode cX6_causeOf 10 = .ok (.aload_n 0, 1) := by decide +kernel
theorem dX6_causeOf_11 : decode cX6_causeOf 11 = .ok (.getfield 9, 3) := by decide +kernel
theorem dX6_causeOf_14 : decode cX6_causeOf 14 = .ok (.iload_n 1, 1) := by decide +kernel
theorem dX6_causeOf_15 : decode cX6_causeOf 15 = .ok (.iconst 4, 1) := by decide +kernel
theorem dX6_causeOf_16 : decode cX6_causeOf 16 = .ok (.invokevirtual 15, 3) := by decide +kernel
theorem dX6_causeOf_19 : decode cX6_causeOf 19 = .ok (.istore_n 3, 1) := by decide +kernel
theorem dX6_causeOf_20 : decode cX6_causeOf 20 = .ok (.aload_n 0, 1) := by decide +kernel
theorem dX6_causeOf_21 : decode cX6_causeOf 21 = .ok (.getfield 21, 3) := by decide +kernel
theorem dX6_causeOf_24 : decode cX6_causeOf 24 = .ok (.iconst 1, 1) := by decide +kernel
theorem dX6_causeOf_25 : decode cX6_causeOf 25 = .ok (.iadd, 1) := by decide +kernel
theorem dX6_causeOf_26 : decode cX6_causeOf 26 = .ok (.istore 4, 2) := by decide +kernel
theorem dX6_causeOf_28 : decode cX6_causeOf 28 = .ok (.iload_n 2, 1) := by decide +kernel
theorem dX6_causeOf_29 : decode cX6_causeOf 29 = .ok (.ifCond .eq 8, 3) := by decide +kernel
theorem dX6_causeOf_32 : decode cX6_causeOf 32 = .ok (.bipush 100, 2) := by decide +kernel
theorem dX6_causeOf_34 : decode cX6_causeOf 34 = .ok (.iload_n 2, 1) := by decide +kernel
theorem dX6_causeOf_35 : decode cX6_causeOf 35 = .ok (.iadd, 1) := by decide +kernel
theorem dX6_causeOf_36 : decode cX6_causeOf 36 = .ok (.ireturn, 1) := by decide +kernel
theorem dX6_causeOf_37 : decode cX6_causeOf 37 = .ok (.aload_n 0, 1) := by decide +kernel
theorem dX6_causeOf_38 : decode cX6_causeOf 38 = .ok (.iload_n 1, 1) := by decide +kernel
theorem dX6_causeOf_39 : decode cX6_causeOf 39 = .ok (.invokevirtual 25, 3) := by decide +kernel
theorem dX6_causeOf_42 : decode cX6_causeOf 42 = .ok (.iconst (-1), 1) := by decide +kernel
theorem dX6_causeOf_43 : decode cX6_causeOf 43 = .ok (.if_icmp .ne 17, 3) := by decide +kernel
theorem dX6_causeOf_46 : decode cX6_causeOf 46 = .ok (.sipush 200, 3) := by decide +kernel
theorem dX6_causeOf_49 : decode cX6_causeOf 49 = .ok (.aload_n 0, 1) := by decide +kernel
theorem dX6_causeOf_50 : decode cX6_causeOf 50 = .ok (.getfield 9, 3) := by decide +kernel
theorem dX6_causeOf_53 : decode cX6_causeOf 53 = .ok (.iload_n 1, 1) := by decide +kernel
theorem dX6_causeOf_54 : decode cX6_causeOf 54 = .ok (.iconst 1, 1) := by decide +kernel
theorem dX6_causeOf_55 : decode cX6_causeOf 55 = .ok (.invokevirtual 15, 3) := by decide +kernel
theorem dX6_causeOf_58 : decode cX6_causeOf 58 = .ok (.iadd, 1) := by decide +kernel
theorem dX6_causeOf_59 : decode cX6_causeOf 59 = .ok (.ireturn, 1) := by decide +kernel
theorem dX6_causeOf_60 : decode cX6_causeOf 60 = .ok (.iload 4, 2) := by decide +kernel
theorem dX6_causeOf_62 : decode cX6_causeOf 62 = .ok (.bipush 60, 2) := by decide +kernel
theorem dX6_causeOf_64 : decode cX6_causeOf 64 = .ok (.irem, 1) := by decide +kernel
theorem dX6_causeOf_65 : decode cX6_causeOf 65 = .ok (.aload_n 0, 1) := by decide +kernel
theorem dX6_causeOf_66 : decode cX6_causeOf 66 = .ok (.bipush 9, 2) := by decide +kernel
theorem dX6_causeOf_68 : decode cX6_causeOf 68 = .ok (.invokevirtual 29, 3) := by decide +kernel
theorem dX6_causeOf_71 : decode cX6_causeOf 71 = .ok (.if_icmp .lt 13, 3) := by decide +kernel
theorem dX6_causeOf_74 : decode cX6_causeOf 74 = .ok (.sipush 300, 3) := by decide +kernel
theorem dX6_causeOf_77 : decode cX6_causeOf 77 = .ok (.iload 4, 2) := by decide +kernel
theorem dX6_causeOf_79 : decode cX6_causeOf 79 = .ok (.bipush 60, 2) := by decide +kernel
theorem dX6_causeOf_81 : decode cX6_causeOf 81 = .ok (.irem, 1) := by decide +kernel
theorem dX6_causeOf_82 : decode cX6_causeOf 82 = .ok (.iadd, 1) := by decide +kernel
theorem dX6_causeOf_83 : decode cX6_causeOf 83 = .ok (.ireturn, 1) := by decide +kernel
theorem dX6_causeOf_84 : decode cX6_causeOf 84 = .ok (.aload_n 0, 1) := by decide +kernel
theorem dX6_causeOf_85 : decode cX6_causeOf 85 = .ok (.iload_n 3, 1) := by decide +kernel
theorem dX6_causeOf_86 : decode cX6_causeOf 86 = .ok (.iload 4, 2) := by decide +kernel
theorem dX6_causeOf_88 : decode cX6_causeOf 88 = .ok (.invokevirtual 32, 3) := by decide +kernel
theorem dX6_causeOf_91 : decode cX6_causeOf 91 = .ok (.ifCond .eq 20, 3) := by decide +kernel
theorem dX6_causeOf_94 : decode cX6_causeOf 94 = .ok (.sipush 400, 3) := by decide +kernel
theorem dX6_causeOf_97 : decode cX6_causeOf 97 = .ok (.aload_n 0, 1) := by decide +kernel
theorem dX6_causeOf_98 : decode cX6_causeOf 98 = .ok (.getfield 36, 3) := by decide +kernel
theorem dX6_causeOf_101 : decode cX6_causeOf 101 = .ok (.iload_n 3, 1) := by decide +kernel
theorem dX6_causeOf_102 : decode cX6_causeOf 102 = .ok (.iconst 4, 1) := by decide +kernel
theorem dX6_causeOf_103 : decode cX6_causeOf 103 = .ok (.invokevirtual 15, 3) := by decide +kernel
theorem dX6_causeOf_106 : decode cX6_causeOf 106 = .ok (.iadd, 1) := by decide +kernel
theorem dX6_causeOf_107 : decode cX6_causeOf 107 = .ok (.iload 4, 2) := by decide +kernel
theorem dX6_causeOf_109 : decode cX6_causeOf 109 = .ok (.isub, 1) := by decide +kernel
theorem dX6_causeOf_110 : decode cX6_causeOf 110 = .ok (.ireturn, 1) := by decide +kernel
theorem dX6_causeOf_111 : decode cX6_causeOf 111 = .ok (.aload_n 0, 1) := by decide +kernel
theorem dX6_causeOf_112 : decode cX6_causeOf 112 = .ok (.iload_n 1, 1) := by decide +kernel
theorem dX6_causeOf_113 : decode cX6_causeOf 113 = .ok (.invokevirtual 39, 3) := by decide +kernel
theorem dX6_causeOf_116 : decode cX6_causeOf 116 = .ok (.ifCond .le 13, 3) := by decide +kernel
theorem dX6_causeOf_119 : decode cX6_causeOf 119 = .ok (.sipush 500, 3) := by decide +kernel
theorem dX6_causeOf_122 : decode cX6_causeOf 122 = .ok (.aload_n 0, 1) := by decide +kernel
theorem dX6_causeOf_123 : decode cX6_causeOf 123 = .ok (.iload_n 1, 1) := by decide +kernel
theorem dX6_causeOf_124 : decode cX6_causeOf 124 = .ok (.invokevirtual 39, 3) := by decide +kernel
theorem dX6_causeOf_127 : decode cX6_causeOf 127 = .ok (.iadd, 1) := by decide +kernel
theorem dX6_causeOf_128 : decode cX6_causeOf 128 = .ok (.ireturn, 1) := by decide +kernel
theorem dX6_causeOf_129 : decode cX6_causeOf 129 = .ok (.aload_n 0, 1) := by decide +kernel
theorem dX6_causeOf_130 : decode cX6_causeOf 130 = .ok (.iload_n 3, 1) := by decide +kernel
theorem dX6_causeOf_131 : decode cX6_causeOf 131 = .ok (.invokevirtual 42, 3) := by decide +kernel
theorem dX6_causeOf_134 : decode cX6_causeOf 134 = .ok (.istore 5, 2) := by decide +kernel
theorem dX6_causeOf_136 : decode cX6_causeOf 136 = .ok (.iload 5, 2) := by decide +kernel
theorem dX6_causeOf_138 : decode cX6_causeOf 138 = .ok (.iload_n 1, 1) := by decide +kernel
theorem dX6_causeOf_139 : decode cX6_causeOf 139 = .ok (.if_icmp .ne 7, 3) := by decide +kernel
theorem dX6_causeOf_142 : decode cX6_causeOf 142 = .ok (.iconst 0, 1) := by decide +kernel
theorem dX6_causeOf_143 : decode cX6_causeOf 143 = .ok (.goto 9, 3) := by decide +kernel
theorem dX6_causeOf_146 : decode cX6_causeOf 146 = .ok (.sipush 600, 3) := by decide +kernel
theorem dX6_causeOf_149 : decode cX6_causeOf 149 = .ok (.iload 5, 2) := by decide +kernel
theorem dX6_causeOf_151 : decode cX6_causeOf 151 = .ok (.iadd, 1) := by decide +kernel
theorem dX6_causeOf_152 : decode cX6_causeOf 152 = .ok (.ireturn, 1) := by decide +kernel
theorem dX6_feesOn_0 : decode cX6_feesOn 0 = .ok (.iconst 0, 1) := by decide +kernel
theorem dX6_feesOn_1 : decode cX6_feesOn 1 = .ok (.istore 4, 2) := by decide +kernel
theorem dX6_feesOn_3 : decode cX6_feesOn 3 = .ok (.iload_n 1, 1) := by decide +kernel
theorem dX6_feesOn_4 : decode cX6_feesOn 4 = .ok (.istore 5, 2) := by decide +kernel
theorem dX6_feesOn_6 : decode cX6_feesOn 6 = .ok (.iconst 0, 1) := by decide +kernel
theorem dX6_feesOn_7 : decode cX6_feesOn 7 = .ok (.istore 6, 2) := by decide +kernel
theorem dX6_feesOn_9 : decode cX6_feesOn 9 = .ok (.iload 6, 2) := by decide +kernel
theorem dX6_feesOn_11 : decode cX6_feesOn 11 = .ok (.bipush 10, 2) := by decide +kernel
theorem dX6_feesOn_13 : decode cX6_feesOn 13 = .ok (.if_icmp .ge 62, 3) := by decide +kernel
theorem dX6_feesOn_16 : decode cX6_feesOn 16 = .ok (.iload 5, 2) := by decide +kernel
theorem dX6_feesOn_18 : decode cX6_feesOn 18 = .ok (.iload_n 2, 1) := by decide +kernel
theorem dX6_feesOn_19 : decode cX6_feesOn 19 = .ok (.if_icmp .eq 56, 3) := by decide +kernel
theorem dX6_feesOn_22 : decode cX6_feesOn 22 = .ok (.aload_n 0, 1) := by decide +kernel
theorem dX6_feesOn_23 : decode cX6_feesOn 23 = .ok (.getfield 45, 3) := by decide +kernel
theorem dX6_feesOn_26 : decode cX6_feesOn 26 = .ok (.getfield 49, 3) := by decide +kernel
theorem dX6_feesOn_29 : decode cX6_feesOn 29 = .ok (.iload 5, 2) := by decide +kernel
theorem dX6_feesOn_31 : decode cX6_feesOn 31 = .ok (.iload_n 2, 1) := by decide +kernel
theorem dX6_feesOn_32 : decode cX6_feesOn 32 = .ok (.invokevirtual 15, 3) := by decide +kernel
theorem dX6_feesOn_35 : decode cX6_feesOn 35 = .ok (.istore 7, 2) := by decide +kernel
theorem dX6_feesOn_37 : decode cX6_feesOn 37 = .ok (.iload 7, 2) := by decide +kernel
theorem dX6_feesOn_39 : decode cX6_feesOn 39 = .ok (.iconst (-1), 1) := by decide +kernel
theorem dX6_feesOn_40 : decode cX6_feesOn 40 = .ok (.if_icmp .ne 5, 3) := by decide +kernel
theorem dX6_feesOn_43 : decode cX6_feesOn 43 = .ok (.iconst (-1), 1) := by decide +kernel
theorem dX6_feesOn_44 : decode cX6_feesOn 44 = .ok (.ireturn, 1) := by decide +kernel
theorem dX6_feesOn_45 : decode cX6_feesOn 45 = .ok (.iload 4, 2) := by decide +kernel
theorem dX6_feesOn_47 : decode cX6_feesOn 47 = .ok (.iload_n 3, 1) := by decide +kernel
theorem dX6_feesOn_48 : decode cX6_feesOn 48 = .ok (.invokestatic 54, 3) := by decide +kernel
theorem dX6_feesOn_51 : decode cX6_feesOn 51 = .ok (.aload_n 0, 1) := by decide +kernel
theorem dX6_feesOn_52 : decode cX6_feesOn 52 = .ok (.getfield 36, 3) := by decide +kernel
theorem dX6_feesOn_55 : decode cX6_feesOn 55 = .ok (.iload 5, 2) := by decide +kernel
theorem dX6_feesOn_57 : decode cX6_feesOn 57 = .ok (.iconst 2, 1) := by decide +kernel
theorem dX6_feesOn_58 : decode cX6_feesOn 58 = .ok (.invokevirtual 15, 3) := by decide +kernel
theorem dX6_feesOn_61 : decode cX6_feesOn 61 = .ok (.imul, 1) := by decide +kernel
theorem dX6_feesOn_62 : decode cX6_feesOn 62 = .ok (.iadd, 1) := by decide +kernel
theorem dX6_feesOn_63 : decode cX6_feesOn 63 = .ok (.istore 4, 2) := by decide +kernel
theorem dX6_feesOn_65 : decode cX6_feesOn 65 = .ok (.iload 7, 2) := by decide +kernel
theorem dX6_feesOn_67 : decode cX6_feesOn 67 = .ok (.istore 5, 2) := by decide +kernel
theorem dX6_feesOn_69 : decode cX6_feesOn 69 = .ok (.iinc 6 1, 3) := by decide +kernel
theorem dX6_feesOn_72 : decode cX6_feesOn 72 = .ok (.goto (-63), 3) := by decide +kernel
theorem dX6_feesOn_75 : decode cX6_feesOn 75 = .ok (.iload 4, 2) := by decide +kernel
theorem dX6_feesOn_77 : decode cX6_feesOn 77 = .ok (.ireturn, 1) := by decide +kernel
theorem dX6_wrongNotesOn_0 : decode cX6_wrongNotesOn 0 = .ok (.iconst 0, 1) := by decide +kernel
theorem dX6_wrongNotesOn_1 : decode cX6_wrongNotesOn 1 = .ok (.istore 5, 2) := by decide +kernel
theorem dX6_wrongNotesOn_3 : decode cX6_wrongNotesOn 3 = .ok (.iload_n 1, 1) := by decide +kernel
theorem dX6_wrongNotesOn_4 : decode cX6_wrongNotesOn 4 = .ok (.istore 6, 2) := by decide +kernel
theorem dX6_wrongNotesOn_6 : decode cX6_wrongNotesOn 6 = .ok (.iconst 0, 1) := by decide +kernel
theorem dX6_wrongNotesOn_7 : decode cX6_wrongNotesOn 7 = .ok (.istore 7, 2) := by decide +kernel
theorem dX6_wrongNotesOn_9 : decode cX6_wrongNotesOn 9 = .ok (.iload 7, 2) := by decide +kernel
theorem dX6_wrongNotesOn_11 : decode cX6_wrongNotesOn 11 = .ok (.bipush 10, 2) := by decide +kernel
theorem dX6_wrongNotesOn_13 : decode cX6_wrongNotesOn 13 = .ok (.if_icmp .ge 70, 3) := by decide +kernel
theorem dX6_wrongNotesOn_16 : decode cX6_wrongNotesOn 16 = .ok (.iload 6, 2) := by decide +kernel
theorem dX6_wrongNotesOn_18 : decode cX6_wrongNotesOn 18 = .ok (.iload_n 2, 1) := by decide +kernel
theorem dX6_wrongNotesOn_19 : decode cX6_wrongNotesOn 19 = .ok (.if_icmp .eq 64, 3) := by decide +kernel
theorem dX6_wrongNotesOn_22 : decode cX6_wrongNotesOn 22 = .ok (.aload_n 0, 1) := by decide +kernel
theorem dX6_wrongNotesOn_23 : decode cX6_wrongNotesOn 23 = .ok (.getfield 45, 3) := by decide +kernel
theorem dX6_wrongNotesOn_26 : decode cX6_wrongNotesOn 26 = .ok (.getfield 49, 3) := by decide +kernel
theorem dX6_wrongNotesOn_29 : decode cX6_wrongNotesOn 29 = .ok (.iload 6, 2) := by decide +kernel
theorem dX6_wrongNotesOn_31 : decode cX6_wrongNotesOn 31 = .ok (.iload_n 2, 1) := by decide +kernel
theorem dX6_wrongNotesOn_32 : decode cX6_wrongNotesOn 32 = .ok (.invokevirtual 15, 3) := by decide +kernel
theorem dX6_wrongNotesOn_35 : decode cX6_wrongNotesOn 35 = .ok (.istore 8, 2) := by decide +kernel
theorem dX6_wrongNotesOn_37 : decode cX6_wrongNotesOn 37 = .ok (.iload 8, 2) := by decide +kernel
theorem dX6_wrongNotesOn_39 : decode cX6_wrongNotesOn 39 = .ok (.iconst (-1), 1) := by decide +kernel
theorem dX6_wrongNotesOn_40 : decode cX6_wrongNotesOn 40 = .ok (.if_icmp .ne 5, 3) := by decide +kernel
theorem dX6_wrongNotesOn_43 : decode cX6_wrongNotesOn 43 = .ok (.iconst (-1), 1) := by decide +kernel
theorem dX6_wrongNotesOn_44 : decode cX6_wrongNotesOn 44 = .ok (.ireturn, 1) := by decide +kernel
theorem dX6_wrongNotesOn_45 : decode cX6_wrongNotesOn 45 = .ok (.iload 5, 2) := by decide +kernel
theorem dX6_wrongNotesOn_47 : decode cX6_wrongNotesOn 47 = .ok (.aload_n 0, 1) := by decide +kernel
theorem dX6_wrongNotesOn_48 : decode cX6_wrongNotesOn 48 = .ok (.aload_n 0, 1) := by decide +kernel
theorem dX6_wrongNotesOn_49 : decode cX6_wrongNotesOn 49 = .ok (.getfield 45, 3) := by decide +kernel
theorem dX6_wrongNotesOn_52 : decode cX6_wrongNotesOn 52 = .ok (.getfield 57, 3) := by decide +kernel
theorem dX6_wrongNotesOn_55 : decode cX6_wrongNotesOn 55 = .ok (.iload 6, 2) := by decide +kernel
theorem dX6_wrongNotesOn_57 : decode cX6_wrongNotesOn 57 = .ok (.iload 8, 2) := by decide +kernel
theorem dX6_wrongNotesOn_59 : decode cX6_wrongNotesOn 59 = .ok (.invokevirtual 15, 3) := by decide +kernel
theorem dX6_wrongNotesOn_62 : decode cX6_wrongNotesOn 62 = .ok (.iload 8, 2) := by decide +kernel
theorem dX6_wrongNotesOn_64 : decode cX6_wrongNotesOn 64 = .ok (.iload_n 3, 1) := by decide +kernel
theorem dX6_wrongNotesOn_65 : decode cX6_wrongNotesOn 65 = .ok (.iload 4, 2) := by decide +kernel
theorem dX6_wrongNotesOn_67 : decode cX6_wrongNotesOn 67 = .ok (.invokevirtual 60, 3) := by decide +kernel
theorem dX6_wrongNotesOn_70 : decode cX6_wrongNotesOn 70 = .ok (.iadd, 1) := by decide +kernel
theorem dX6_wrongNotesOn_71 : decode cX6_wrongNotesOn 71 = .ok (.istore 5, 2) := by decide +kernel
theorem dX6_wrongNotesOn_73 : decode cX6_wrongNotesOn 73 = .ok (.iload 8, 2) := by decide +kernel
theorem dX6_wrongNotesOn_75 : decode cX6_wrongNotesOn 75 = .ok (.istore 6, 2) := by decide +kernel
theorem dX6_wrongNotesOn_77 : decode cX6_wrongNotesOn 77 = .ok (.iinc 7 1, 3) := by decide +kernel
theorem dX6_wrongNotesOn_80 : decode cX6_wrongNotesOn 80 = .ok (.goto (-71), 3) := by decide +kernel
theorem dX6_wrongNotesOn_83 : decode cX6_wrongNotesOn 83 = .ok (.iload 5, 2) := by decide +kernel
theorem dX6_wrongNotesOn_85 : decode cX6_wrongNotesOn 85 = .ok (.ireturn, 1) := by decide +kernel
theorem dX6_mostNeededWay_0 : decode cX6_mostNeededWay 0 = .ok (.iconst (-1), 1) := by decide +kernel
theorem dX6_mostNeededWay_1 : decode cX6_mostNeededWay 1 = .ok (.istore_n 1, 1) := by decide +kernel
theorem dX6_mostNeededWay_2 : decode cX6_mostNeededWay 2 = .ok (.iconst (-1), 1) := by decide +kernel
theorem dX6_mostNeededWay_3 : decode cX6_mostNeededWay 3 = .ok (.istore_n 2, 1) := by decide +kernel
theorem dX6_mostNeededWay_4 : decode cX6_mostNeededWay 4 = .ok (.iconst 0, 1) := by decide +kernel
theorem dX6_mostNeededWay_5 : decode cX6_mostNeededWay 5 = .ok (.istore_n 3, 1) := by decide +kernel
theorem dX6_mostNeededWay_6 : decode cX6_mostNeededWay 6 = .ok (.iload_n 3, 1) := by decide +kernel
theorem dX6_mostNeededWay_7 : decode cX6_mostNeededWay 7 = .ok (.aload_n 0, 1) := by decide +kernel
theorem dX6_mostNeededWay_8 : decode cX6_mostNeededWay 8 = .ok (.getfield 64, 3) := by decide +kernel
theorem dX6_mostNeededWay_11 : decode cX6_mostNeededWay 11 = .ok (.if_icmp .ge 27, 3) := by decide +kernel
theorem dX6_mostNeededWay_14 : decode cX6_mostNeededWay 14 = .ok (.aload_n 0, 1) := by decide +kernel
theorem dX6_mostNeededWay_15 : decode cX6_mostNeededWay 15 = .ok (.iload_n 3, 1) := by decide +kernel
theorem dX6_mostNeededWay_16 : decode cX6_mostNeededWay 16 = .ok (.invokestatic 67, 3) := by decide +kernel
theorem dX6_mostNeededWay_19 : decode cX6_mostNeededWay 19 = .ok (.istore 4, 2) := by decide +kernel
theorem dX6_mostNeededWay_21 : decode cX6_mostNeededWay 21 = .ok (.iload 4, 2) := by decide +kernel
theorem dX6_mostNeededWay_23 : decode cX6_mostNeededWay 23 = .ok (.iload_n 2, 1) := by decide +kernel
theorem dX6_mostNeededWay_24 : decode cX6_mostNeededWay 24 = .ok (.if_icmp .le 8, 3) := by decide +kernel
theorem dX6_mostNeededWay_27 : decode cX6_mostNeededWay 27 = .ok (.iload 4, 2) := by decide +kernel
theorem dX6_mostNeededWay_29 : decode cX6_mostNeededWay 29 = .ok (.istore_n 2, 1) := by decide +kernel
theorem dX6_mostNeededWay_30 : decode cX6_mostNeededWay 30 = .ok (.iload_n 3, 1) := by decide +kernel
theorem dX6_mostNeededWay_31 : decode cX6_mostNeededWay 31 = .ok (.istore_n 1, 1) := by decide +kernel
theorem dX6_mostNeededWay_32 : decode cX6_mostNeededWay 32 = .ok (.iinc 3 1, 3) := by decide +kernel
theorem dX6_mostNeededWay_35 : decode cX6_mostNeededWay 35 = .ok (.goto (-29), 3) := by decide +kernel
theorem dX6_mostNeededWay_38 : decode cX6_mostNeededWay 38 = .ok (.iload_n 1, 1) := by decide +kernel
theorem dX6_mostNeededWay_39 : decode cX6_mostNeededWay 39 = .ok (.ireturn, 1) := by decide +kernel
theorem dX6_pairsApartWithout_0 : decode cX6_pairsApartWithout 0 = .ok (.iconst 0, 1) := by decide +kernel
theorem dX6_pairsApartWithout_1 : decode cX6_pairsApartWithout 1 = .ok (.istore_n 2, 1) := by decide +kernel
theorem dX6_pairsApartWithout_2 : decode cX6_pairsApartWithout 2 = .ok (.iconst 1, 1) := by decide +kernel
theorem dX6_pairsApartWithout_3 : decode cX6_pairsApartWithout 3 = .ok (.aload_n 0, 1) := by decide +kernel
theorem dX6_pairsApartWithout_4 : decode cX6_pairsApartWithout 4 = .ok (.getfield 73, 3) := by decide +kernel
theorem dX6_pairsApartWithout_7 : decode cX6_pairsApartWithout 7 = .ok (.ishl, 1) := by decide +kernel
theorem dX6_pairsApartWithout_8 : decode cX6_pairsApartWithout 8 = .ok (.iconst 1, 1) := by decide +kernel
theorem dX6_pairsApartWithout_9 : decode cX6_pairsApartWithout 9 = .ok (.isub, 1) := by decide +kernel
theorem dX6_pairsApartWithout_10 : decode cX6_pairsApartWithout 10 = .ok (.istore_n 3, 1) := by decide +kernel
theorem dX6_pairsApartWithout_11 : decode cX6_pairsApartWithout 11 = .ok (.iconst 0, 1) := by decide +kernel
theorem dX6_pairsApartWithout_12 : decode cX6_pairsApartWithout 12 = .ok (.istore 4, 2) := by decide +kernel
theorem dX6_pairsApartWithout_14 : decode cX6_pairsApartWithout 14 = .ok (.iload 4, 2) := by decide +kernel
theorem dX6_pairsApartWithout_16 : decode cX6_pairsApartWithout 16 = .ok (.aload_n 0, 1) := by decide +kernel
theorem dX6_pairsApartWithout_17 : decode cX6_pairsApartWithout 17 = .ok (.getfield 73, 3) := by decide +kernel
theorem dX6_pairsApartWithout_20 : decode cX6_pairsApartWithout 20 = .ok (.if_icmp .ge 48, 3) := by decide +kernel
theorem dX6_pairsApartWithout_23 : decode cX6_pairsApartWithout 23 = .ok (.iload_n 3, 1) := by decide +kernel
theorem dX6_pairsApartWithout_24 : decode cX6_pairsApartWithout 24 = .ok (.iload 4, 2) := by decide +kernel
theorem dX6_pairsApartWithout_26 : decode cX6_pairsApartWithout 26 = .ok (.ishr, 1) := by decide +kernel
theorem dX6_pairsApartWithout_27 : decode cX6_pairsApartWithout 27 = .ok (.iconst 1, 1) := by decide +kernel
theorem dX6_pairsApartWithout_28 : decode cX6_pairsApartWithout 28 = .ok (.iand, 1) := by decide +kernel
theorem dX6_pairsApartWithout_29 : decode cX6_pairsApartWithout 29 = .ok (.iconst 1, 1) := by decide +kernel
theorem dX6_pairsApartWithout_30 : decode cX6_pairsApartWithout 30 = .ok (.if_icmp .ne 32, 3) := by decide +kernel
theorem dX6_pairsApartWithout_33 : decode cX6_pairsApartWithout 33 = .ok (.aload_n 0, 1) := by decide +kernel
theorem dX6_pairsApartWithout_34 : decode cX6_pairsApartWithout 34 = .ok (.iload 4, 2) := by decide +kernel
theorem dX6_pairsApartWithout_36 : decode cX6_pairsApartWithout 36 = .ok (.iload_n 1, 1) := by decide +kernel
theorem dX6_pairsApartWithout_37 : decode cX6_pairsApartWithout 37 = .ok (.invokestatic 76, 3) := by decide +kernel
theorem dX6_pairsApartWithout_40 : decode cX6_pairsApartWithout 40 = .ok (.istore 5, 2) := by decide +kernel
theorem dX6_pairsApartWithout_42 : decode cX6_pairsApartWithout 42 = .ok (.iload_n 3, 1) := by decide +kernel
theorem dX6_pairsApartWithout_43 : decode cX6_pairsApartWithout 43 = .ok (.iload 5, 2) := by decide +kernel
theorem dX6_pairsApartWithout_45 : decode cX6_pairsApartWithout 45 = .ok (.iconst (-1), 1) := by decide +kernel
theorem dX6_pairsApartWithout_46 : decode cX6_pairsApartWithout 46 = .ok (.ixor, 1) := by decide +kernel
theorem dX6_pairsApartWithout_47 : decode cX6_pairsApartWithout 47 = .ok (.iand, 1) := by decide +kernel
theorem dX6_pairsApartWithout_48 : decode cX6_pairsApartWithout 48 = .ok (.istore_n 3, 1) := by decide +kernel
theorem dX6_pairsApartWithout_49 : decode cX6_pairsApartWithout 49 = .ok (.iload_n 2, 1) := by decide +kernel
theorem dX6_pairsApartWithout_50 : decode cX6_pairsApartWithout 50 = .ok (.iload 5, 2) := by decide +kernel
theorem dX6_pairsApartWithout_52 : decode cX6_pairsApartWithout 52 = .ok (.invokestatic 80, 3) := by decide +kernel
theorem dX6_pairsApartWithout_55 : decode cX6_pairsApartWithout 55 = .ok (.iload_n 3, 1) := by decide +kernel
theorem dX6_pairsApartWithout_56 : decode cX6_pairsApartWithout 56 = .ok (.invokestatic 80, 3) := by decide +kernel
theorem dX6_pairsApartWithout_59 : decode cX6_pairsApartWithout 59 = .ok (.imul, 1) := by decide +kernel
theorem dX6_pairsApartWithout_60 : decode cX6_pairsApartWithout 60 = .ok (.iadd, 1) := by decide +kernel
theorem dX6_pairsApartWithout_61 : decode cX6_pairsApartWithout 61 = .ok (.istore_n 2, 1) := by decide +kernel
theorem dX6_pairsApartWithout_62 : decode cX6_pairsApartWithout 62 = .ok (.iinc 4 1, 3) := by decide +kernel
theorem dX6_pairsApartWithout_65 : decode cX6_pairsApartWithout 65 = .ok (.goto (-51), 3) := by decide +kernel
theorem dX6_pairsApartWithout_68 : decode cX6_pairsApartWithout 68 = .ok (.iload_n 2, 1) := by decide +kernel
theorem dX6_pairsApartWithout_69 : decode cX6_pairsApartWithout 69 = .ok (.ireturn, 1) := by decide +kernel
theorem dX6_partOf_0 : decode cX6_partOf 0 = .ok (.iconst 1, 1) := by decide +kernel
theorem dX6_partOf_1 : decode cX6_partOf 1 = .ok (.iload_n 1, 1) := by decide +kernel
theorem dX6_partOf_2 : decode cX6_partOf 2 = .ok (.ishl, 1) := by decide +kernel
theorem dX6_partOf_3 : decode cX6_partOf 3 = .ok (.istore_n 3, 1) := by decide +kernel
theorem dX6_partOf_4 : decode cX6_partOf 4 = .ok (.iconst 1, 1) := by decide +kernel
theorem dX6_partOf_5 : decode cX6_partOf 5 = .ok (.istore 4, 2) := by decide +kernel
theorem dX6_partOf_7 : decode cX6_partOf 7 = .ok (.iload 4, 2) := by decide +kernel
theorem dX6_partOf_9 : decode cX6_partOf 9 = .ok (.aload_n 0, 1) := by decide +kernel
theorem dX6_partOf_10 : decode cX6_partOf 10 = .ok (.getfield 73, 3) := by decide +kernel
theorem dX6_partOf_13 : decode cX6_partOf 13 = .ok (.if_icmp .ge 83, 3) := by decide +kernel
theorem dX6_partOf_16 : decode cX6_partOf 16 = .ok (.iload_n 3, 1) := by decide +kernel
theorem dX6_partOf_17 : decode cX6_partOf 17 = .ok (.istore 5, 2) := by decide +kernel
theorem dX6_partOf_19 : decode cX6_partOf 19 = .ok (.iconst 0, 1) := by decide +kernel
theorem dX6_partOf_20 : decode cX6_partOf 20 = .ok (.istore 6, 2) := by decide +kernel
theorem dX6_partOf_22 : decode cX6_partOf 22 = .ok (.iload 6, 2) := by decide +kernel
theorem dX6_partOf_24 : decode cX6_partOf 24 = .ok (.aload_n 0, 1) := by decide +kernel
theorem dX6_partOf_25 : decode cX6_partOf 25 = .ok (.getfield 64, 3) := by decide +kernel
theorem dX6_partOf_28 : decode cX6_partOf 28 = .ok (.if_icmp .ge 54, 3) := by decide +kernel
theorem dX6_partOf_31 : decode cX6_partOf 31 = .ok (.iconst 1, 1) := by decide +kernel
theorem dX6_partOf_32 : decode cX6_partOf 32 = .ok (.aload_n 0, 1) := by decide +kernel
theorem dX6_partOf_33 : decode cX6_partOf 33 = .ok (.getfield 85, 3) := by decide +kernel
theorem dX6_partOf_36 : decode cX6_partOf 36 = .ok (.iload 6, 2) := by decide +kernel
theorem dX6_partOf_38 : decode cX6_partOf 38 = .ok (.iconst 0, 1) := by decide +kernel
theorem dX6_partOf_39 : decode cX6_partOf 39 = .ok (.invokevirtual 15, 3) := by decide +kernel
theorem dX6_partOf_42 : decode cX6_partOf 42 = .ok (.ishl, 1) := by decide +kernel
theorem dX6_partOf_43 : decode cX6_partOf 43 = .ok (.iconst 1, 1) := by decide +kernel
theorem dX6_partOf_44 : decode cX6_partOf 44 = .ok (.aload_n 0, 1) := by decide +kernel
theorem dX6_partOf_45 : decode cX6_partOf 45 = .ok (.getfield 85, 3) := by decide +kernel
theorem dX6_partOf_48 : decode cX6_partOf 48 = .ok (.iload 6, 2) := by decide +kernel
theorem dX6_partOf_50 : decode cX6_partOf 50 = .ok (.iconst 1, 1) := by decide +kernel
theorem dX6_partOf_51 : decode cX6_partOf 51 = .ok (.invokevirtual 15, 3) := by decide +kernel
theorem dX6_partOf_54 : decode cX6_partOf 54 = .ok (.ishl, 1) := by decide +kernel
theorem dX6_partOf_55 : decode cX6_partOf 55 = .ok (.ior, 1) := by decide +kernel
theorem dX6_partOf_56 : decode cX6_partOf 56 = .ok (.istore 7, 2) := by decide +kernel
theorem dX6_partOf_58 : decode cX6_partOf 58 = .ok (.iload 6, 2) := by decide +kernel
theorem dX6_partOf_60 : decode cX6_partOf 60 = .ok (.iload_n 2, 1) := by decide +kernel
theorem dX6_partOf_61 : decode cX6_partOf 61 = .ok (.if_icmp .eq 15, 3) := by decide +kernel
theorem dX6_partOf_64 : decode cX6_partOf 64 = .ok (.iload_n 3, 1) := by decide +kernel
theorem dX6_partOf_65 : decode cX6_partOf 65 = .ok (.iload 7, 2) := by decide +kernel
theorem dX6_partOf_67 : decode cX6_partOf 67 = .ok (.iand, 1) := by decide +kernel
theorem dX6_partOf_68 : decode cX6_partOf 68 = .ok (.ifCond .eq 8, 3) := by decide +kernel
theorem dX6_partOf_71 : decode cX6_partOf 71 = .ok (.iload_n 3, 1) := by decide +kernel
theorem dX6_partOf_72 : decode cX6_partOf 72 = .ok (.iload 7, 2) := by decide +kernel
theorem dX6_partOf_74 : decode cX6_partOf 74 = .ok (.ior, 1) := by decide +kernel
theorem dX6_partOf_75 : decode cX6_partOf 75 = .ok (.istore_n 3, 1) := by decide +kernel
theorem dX6_partOf_76 : decode cX6_partOf 76 = .ok (.iinc 6 1, 3) := by decide +kernel
theorem dX6_partOf_79 : decode cX6_partOf 79 = .ok (.goto (-57), 3) := by decide +kernel
theorem dX6_partOf_82 : decode cX6_partOf 82 = .ok (.iload_n 3, 1) := by decide +kernel
theorem dX6_partOf_83 : decode cX6_partOf 83 = .ok (.iload 5, 2) := by decide +kernel
theorem dX6_partOf_85 : decode cX6_partOf 85 = .ok (.if_icmp .ne 5, 3) := by decide +kernel
theorem dX6_partOf_88 : decode cX6_partOf 88 = .ok (.iload_n 3, 1) := by decide +kernel
theorem dX6_partOf_89 : decode cX6_partOf 89 = .ok (.ireturn, 1) := by decide +kernel
theorem dX6_partOf_90 : decode cX6_partOf 90 = .ok (.iinc 4 1, 3) := by decide +kernel
theorem dX6_partOf_93 : decode cX6_partOf 93 = .ok (.goto (-86), 3) := by decide +kernel
theorem dX6_partOf_96 : decode cX6_partOf 96 = .ok (.iload_n 3, 1) := by decide +kernel
theorem dX6_partOf_97 : decode cX6_partOf 97 = .ok (.ireturn, 1) := by decide +kernel
theorem dX6_areTunesRight_0 : decode cX6_areTunesRight 0 = .ok (.iconst 0, 1) := by decide +kernel
theorem dX6_areTunesRight_1 : decode cX6_areTunesRight 1 = .ok (.istore_n 1, 1) := by decide +kernel
theorem dX6_areTunesRight_2 : decode cX6_areTunesRight 2 = .ok (.iload_n 1, 1) := by decide +kernel
theorem dX6_areTunesRight_3 : decode cX6_areTunesRight 3 = .ok (.aload_n 0, 1) := by decide +kernel
theorem dX6_areTunesRight_4 : decode cX6_areTunesRight 4 = .ok (.getfield 88, 3) := by decide +kernel
theorem dX6_areTunesRight_7 : decode cX6_areTunesRight 7 = .ok (.if_icmp .ge 72, 3) := by decide +kernel
theorem dX6_areTunesRight_10 : decode cX6_areTunesRight 10 = .ok (.aload_n 0, 1) := by decide +kernel
theorem dX6_areTunesRight_11 : decode cX6_areTunesRight 11 = .ok (.getfield 9, 3) := by decide +kernel
theorem dX6_areTunesRight_14 : decode cX6_areTunesRight 14 = .ok (.iload_n 1, 1) := by decide +kernel
theorem dX6_areTunesRight_15 : decode cX6_areTunesRight 15 = .ok (.iconst 3, 1) := by decide +kernel
theorem dX6_areTunesRight_16 : decode cX6_areTunesRight 16 = .ok (.invokevirtual 15, 3) := by decide +kernel
theorem dX6_areTunesRight_19 : decode cX6_areTunesRight 19 = .ok (.istore_n 2, 1) := by decide +kernel
theorem dX6_areTunesRight_20 : decode cX6_areTunesRight 20 = .ok (.aload_n 0, 1) := by decide +kernel
theorem dX6_areTunesRight_21 : decode cX6_areTunesRight 21 = .ok (.getfield 9, 3) := by decide +kernel
theorem dX6_areTunesRight_24 : decode cX6_areTunesRight 24 = .ok (.iload_n 1, 1) := by decide +kernel
theorem dX6_areTunesRight_25 : decode cX6_areTunesRight 25 = .ok (.iconst 4, 1) := by decide +kernel
theorem dX6_areTunesRight_26 : decode cX6_areTunesRight 26 = .ok (.invokevirtual 15, 3) := by decide +kernel
theorem dX6_areTunesRight_29 : decode cX6_areTunesRight 29 = .ok (.istore_n 3, 1) := by decide +kernel
theorem dX6_areTunesRight_30 : decode cX6_areTunesRight 30 = .ok (.iload_n 2, 1) := by decide +kernel
theorem dX6_areTunesRight_31 : decode cX6_areTunesRight 31 = .ok (.ifCond .lt 20, 3) := by decide +kernel
theorem dX6_areTunesRight_34 : decode cX6_areTunesRight 34 = .ok (.iload_n 2, 1) := by decide +kernel
theorem dX6_areTunesRight_35 : decode cX6_areTunesRight 35 = .ok (.iconst 3, 1) := by decide +kernel
theorem dX6_areTunesRight_36 : decode cX6_areTunesRight 36 = .ok (.if_icmp .gt 15, 3) := by decide +kernel
theorem dX6_areTunesRight_39 : decode cX6_areTunesRight 39 = .ok (.iload_n 3, 1) := by decide +kernel
theorem dX6_areTunesRight_40 : decode cX6_areTunesRight 40 = .ok (.ifCond .lt 11, 3) := by decide +kernel
theorem dX6_areTunesRight_43 : decode cX6_areTunesRight 43 = .ok (.iload_n 3, 1) := by decide +kernel
theorem dX6_areTunesRight_44 : decode cX6_areTunesRight 44 = .ok (.aload_n 0, 1) := by decide +kernel
theorem dX6_areTunesRight_45 : decode cX6_areTunesRight 45 = .ok (.getfield 73, 3) := by decide +kernel
theorem dX6_areTunesRight_48 : decode cX6_areTunesRight 48 = .ok (.if_icmp .lt 5, 3) := by decide +kernel
theorem dX6_areTunesRight_51 : decode cX6_areTunesRight 51 = .ok (.iconst 0, 1) := by decide +kernel
theorem dX6_areTunesRight_52 : decode cX6_areTunesRight 52 = .ok (.ireturn, 1) := by decide +kernel
theorem dX6_areTunesRight_53 : decode cX6_areTunesRight 53 = .ok (.iload_n 2, 1) := by decide +kernel
theorem dX6_areTunesRight_54 : decode cX6_areTunesRight 54 = .ok (.iconst 2, 1) := by decide +kernel
theorem dX6_areTunesRight_55 : decode cX6_areTunesRight 55 = .ok (.if_icmp .ne 18, 3) := by decide +kernel
theorem dX6_areTunesRight_58 : decode cX6_areTunesRight 58 = .ok (.iload_n 3, 1) := by decide +kernel
theorem dX6_areTunesRight_59 : decode cX6_areTunesRight 59 = .ok (.aload_n 0, 1) := by decide +kernel
theorem dX6_areTunesRight_60 : decode cX6_areTunesRight 60 = .ok (.getfield 9, 3) := by decide +kernel
theorem dX6_areTunesRight_63 : decode cX6_areTunesRight 63 = .ok (.iload_n 1, 1) := by decide +kernel
theorem dX6_areTunesRight_64 : decode cX6_areTunesRight 64 = .ok (.iconst 1, 1) := by decide +kernel
theorem dX6_areTunesRight_65 : decode cX6_areTunesRight 65 = .ok (.invokevirtual 15, 3) := by decide +kernel
theorem dX6_areTunesRight_68 : decode cX6_areTunesRight 68 = .ok (.if_icmp .eq 5, 3) := by decide +kernel
theorem dX6_areTunesRight_71 : decode cX6_areTunesRight 71 = .ok (.iconst 0, 1) := by decide +kernel
theorem dX6_areTunesRight_72 : decode cX6_areTunesRight 72 = .ok (.ireturn, 1) := by decide +kernel
theorem dX6_areTunesRight_73 : decode cX6_areTunesRight 73 = .ok (.iinc 1 1, 3) := by decide +kernel
theorem dX6_areTunesRight_76 : decode cX6_areTunesRight 76 = .ok (.goto (-74), 3) := by decide +kernel
theorem dX6_areTunesRight_79 : decode cX6_areTunesRight 79 = .ok (.iconst 1, 1) := by decide +kernel
theorem dX6_areTunesRight_80 : decode cX6_areTunesRight 80 = .ok (.ireturn, 1) := by decide +kernel
theorem dX6_areAccountsRight_0 : decode cX6_areAccountsRight 0 = .ok (.iconst 0, 1) := by decide +kernel
theorem dX6_areAccountsRight_1 : decode cX6_areAccountsRight 1 = .ok (.istore_n 1, 1) := by decide +kernel
theorem dX6_areAccountsRight_2 : decode cX6_areAccountsRight 2 = .ok (.iconst 0, 1) := by decide +kernel
theorem dX6_areAccountsRight_3 : decode cX6_areAccountsRight 3 = .ok (.istore_n 2, 1) := by decide +kernel
theorem dX6_areAccountsRight_4 : decode cX6_areAccountsRight 4 = .ok (.iload_n 2, 1) := by decide +kernel
theorem dX6_areAccountsRight_5 : decode cX6_areAccountsRight 5 = .ok (.aload_n 0, 1) := by decide +kernel
theorem dX6_areAccountsRight_6 : decode cX6_areAccountsRight 6 = .ok (.getfield 73, 3) := by decide +kernel
theorem dX6_areAccountsRight_9 : decode cX6_areAccountsRight 9 = .ok (.if_icmp .ge 22, 3) := by decide +kernel
theorem dX6_areAccountsRight_12 : decode cX6_areAccountsRight 12 = .ok (.iload_n 1, 1) := by decide +kernel
theorem dX6_areAccountsRight_13 : decode cX6_areAccountsRight 13 = .ok (.aload_n 0, 1) := by decide +kernel
theorem dX6_areAccountsRight_14 : decode cX6_areAccountsRight 14 = .ok (.getfield 36, 3) := by decide +kernel
theorem dX6_areAccountsRight_17 : decode cX6_areAccountsRight 17 = .ok (.iload_n 2, 1) := by decide +kernel
theorem dX6_areAccountsRight_18 : decode cX6_areAccountsRight 18 = .ok (.bipush 6, 2) := by decide +kernel
theorem dX6_areAccountsRight_20 : decode cX6_areAccountsRight 20 = .ok (.invokevirtual 15, 3) := by decide +kernel
theorem dX6_areAccountsRight_23 : decode cX6_areAccountsRight 23 = .ok (.iadd, 1) := by decide +kernel
theorem dX6_areAccountsRight_24 : decode cX6_areAccountsRight 24 = .ok (.istore_n 1, 1) := by decide +kernel
theorem dX6_areAccountsRight_25 : decode cX6_areAccountsRight 25 = .ok (.iinc 2 1, 3) := by decide +kernel
theorem dX6_areAccountsRight_28 : decode cX6_areAccountsRight 28 = .ok (.goto (-24), 3) := by decide +kernel
theorem dX6_areAccountsRight_31 : decode cX6_areAccountsRight 31 = .ok (.iconst 0, 1) := by decide +kernel
theorem dX6_areAccountsRight_32 : decode cX6_areAccountsRight 32 = .ok (.istore_n 2, 1) := by decide +kernel
theorem dX6_areAccountsRight_33 : decode cX6_areAccountsRight 33 = .ok (.iconst 0, 1) := by decide +kernel
theorem dX6_areAccountsRight_34 : decode cX6_areAccountsRight 34 = .ok (.istore_n 3, 1) := by decide +kernel
theorem dX6_areAccountsRight_35 : decode cX6_areAccountsRight 35 = .ok (.iload_n 3, 1) := by decide +kernel
theorem dX6_areAccountsRight_36 : decode cX6_areAccountsRight 36 = .ok (.aload_n 0, 1) := by decide +kernel
theorem dX6_areAccountsRight_37 : decode cX6_areAccountsRight 37 = .ok (.getfield 88, 3) := by decide +kernel
theorem dX6_areAccountsRight_40 : decode cX6_areAccountsRight 40 = .ok (.if_icmp .ge 22, 3) := by decide +kernel
theorem dX6_areAccountsRight_43 : decode cX6_areAccountsRight 43 = .ok (.iload_n 2, 1) := by decide +kernel
theorem dX6_areAccountsRight_44 : decode cX6_areAccountsRight 44 = .ok (.aload_n 0, 1) := by decide +kernel
theorem dX6_areAccountsRight_45 : decode cX6_areAccountsRight 45 = .ok (.getfield 9, 3) := by decide +kernel
theorem dX6_areAccountsRight_48 : decode cX6_areAccountsRight 48 = .ok (.iload_n 3, 1) := by decide +kernel
theorem dX6_areAccountsRight_49 : decode cX6_areAccountsRight 49 = .ok (.bipush 11, 2) := by decide +kernel
theorem dX6_areAccountsRight_51 : decode cX6_areAccountsRight 51 = .ok (.invokevirtual 15, 3) := by decide +kernel
theorem dX6_areAccountsRight_54 : decode cX6_areAccountsRight 54 = .ok (.iadd, 1) := by decide +kernel
theorem dX6_areAccountsRight_55 : decode cX6_areAccountsRight 55 = .ok (.istore_n 2, 1) := by decide +kernel
theorem dX6_areAccountsRight_56 : decode cX6_areAccountsRight 56 = .ok (.iinc 3 1, 3) := by decide +kernel
theorem dX6_areAccountsRight_59 : decode cX6_areAccountsRight 59 = .ok (.goto (-24), 3) := by decide +kernel
theorem dX6_areAccountsRight_62 : decode cX6_areAccountsRight 62 = .ok (.aload_n 0, 1) := by decide +kernel
theorem dX6_areAccountsRight_63 : decode cX6_areAccountsRight 63 = .ok (.getfield 91, 3) := by decide +kernel
theorem dX6_areAccountsRight_66 : decode cX6_areAccountsRight 66 = .ok (.iconst 0, 1) := by decide +kernel
theorem dX6_areAccountsRight_67 : decode cX6_areAccountsRight 67 = .ok (.iconst 1, 1) := by decide +kernel
theorem dX6_areAccountsRight_68 : decode cX6_areAccountsRight 68 = .ok (.invokevirtual 15, 3) := by decide +kernel
theorem dX6_areAccountsRight_71 : decode cX6_areAccountsRight 71 = .ok (.aload_n 0, 1) := by decide +kernel
theorem dX6_areAccountsRight_72 : decode cX6_areAccountsRight 72 = .ok (.getfield 88, 3) := by decide +kernel
theorem dX6_areAccountsRight_75 : decode cX6_areAccountsRight 75 = .ok (.if_icmp .ne 96, 3) := by decide +kernel
theorem dX6_areAccountsRight_78 : decode cX6_areAccountsRight 78 = .ok (.aload_n 0, 1) := by decide +kernel
theorem dX6_areAccountsRight_79 : decode cX6_areAccountsRight 79 = .ok (.getfield 91, 3) := by decide +kernel
theorem dX6_areAccountsRight_82 : decode cX6_areAccountsRight 82 = .ok (.iconst 0, 1) := by decide +kernel
theorem dX6_areAccountsRight_83 : decode cX6_areAccountsRight 83 = .ok (.iconst 5, 1) := by decide +kernel
theorem dX6_areAccountsRight_84 : decode cX6_areAccountsRight 84 = .ok (.invokevirtual 15, 3) := by decide +kernel
theorem dX6_areAccountsRight_87 : decode cX6_areAccountsRight 87 = .ok (.aload_n 0, 1) := by decide +kernel
theorem dX6_areAccountsRight_88 : decode cX6_areAccountsRight 88 = .ok (.iconst 2, 1) := by decide +kernel
theorem dX6_areAccountsRight_89 : decode cX6_areAccountsRight 89 = .ok (.invokevirtual 94, 3) := by decide +kernel
theorem dX6_areAccountsRight_92 : decode cX6_areAccountsRight 92 = .ok (.if_icmp .ne 79, 3) := by decide +kernel
theorem dX6_areAccountsRight_95 : decode cX6_areAccountsRight 95 = .ok (.aload_n 0, 1) := by decide +kernel
theorem dX6_areAccountsRight_96 : decode cX6_areAccountsRight 96 = .ok (.getfield 91, 3) := by decide +kernel
theorem dX6_areAccountsRight_99 : decode cX6_areAccountsRight 99 = .ok (.iconst 0, 1) := by decide +kernel
theorem dX6_areAccountsRight_100 : decode cX6_areAccountsRight 100 = .ok (.bipush 8, 2) := by decide +kernel
theorem dX6_areAccountsRight_102 : decode cX6_areAccountsRight 102 = .ok (.invokevirtual 15, 3) := by decide +kernel
theorem dX6_areAccountsRight_105 : decode cX6_areAccountsRight 105 = .ok (.aload_n 0, 1) := by decide +kernel
theorem dX6_areAccountsRight_106 : decode cX6_areAccountsRight 106 = .ok (.iconst 3, 1) := by decide +kernel
theorem dX6_areAccountsRight_107 : decode cX6_areAccountsRight 107 = .ok (.invokevirtual 94, 3) := by decide +kernel
theorem dX6_areAccountsRight_110 : decode cX6_areAccountsRight 110 = .ok (.if_icmp .ne 61, 3) := by decide +kernel
theorem dX6_areAccountsRight_113 : decode cX6_areAccountsRight 113 = .ok (.aload_n 0, 1) := by decide +kernel
theorem dX6_areAccountsRight_114 : decode cX6_areAccountsRight 114 = .ok (.invokevirtual 97, 3) := by decide +kernel
theorem dX6_areAccountsRight_117 : decode cX6_areAccountsRight 117 = .ok (.iload_n 1, 1) := by decide +kernel
theorem dX6_areAccountsRight_118 : decode cX6_areAccountsRight 118 = .ok (.aload_n 0, 1) := by decide +kernel
theorem dX6_areAccountsRight_119 : decode cX6_areAccountsRight 119 = .ok (.getfield 91, 3) := by decide +kernel
theorem dX6_areAccountsRight_122 : decode cX6_areAccountsRight 122 = .ok (.iconst 0, 1) := by decide +kernel
theorem dX6_areAccountsRight_123 : decode cX6_areAccountsRight 123 = .ok (.bipush 10, 2) := by decide +kernel
theorem dX6_areAccountsRight_125 : decode cX6_areAccountsRight 125 = .ok (.invokevirtual 15, 3) := by decide +kernel
theorem dX6_areAccountsRight_128 : decode cX6_areAccountsRight 128 = .ok (.iadd, 1) := by decide +kernel
theorem dX6_areAccountsRight_129 : decode cX6_areAccountsRight 129 = .ok (.if_icmp .ne 42, 3) := by decide +kernel
theorem dX6_areAccountsRight_132 : decode cX6_areAccountsRight 132 = .ok (.aload_n 0, 1) := by decide +kernel
theorem dX6_areAccountsRight_133 : decode cX6_areAccountsRight 133 = .ok (.getfield 91, 3) := by decide +kernel
theorem dX6_areAccountsRight_136 : decode cX6_areAccountsRight 136 = .ok (.iconst 0, 1) := by decide +kernel
theorem dX6_areAccountsRight_137 : decode cX6_areAccountsRight 137 = .ok (.iconst 3, 1) := by decide +kernel
theorem dX6_areAccountsRight_138 : decode cX6_areAccountsRight 138 = .ok (.invokevirtual 15, 3) := by decide +kernel
theorem dX6_areAccountsRight_141 : decode cX6_areAccountsRight 141 = .ok (.iload_n 2, 1) := by decide +kernel
theorem dX6_areAccountsRight_142 : decode cX6_areAccountsRight 142 = .ok (.if_icmp .ne 29, 3) := by decide +kernel
theorem dX6_areAccountsRight_145 : decode cX6_areAccountsRight 145 = .ok (.aload_n 0, 1) := by decide +kernel
theorem dX6_areAccountsRight_146 : decode cX6_areAccountsRight 146 = .ok (.getfield 91, 3) := by decide +kernel
theorem dX6_areAccountsRight_149 : decode cX6_areAccountsRight 149 = .ok (.iconst 0, 1) := by decide +kernel
theorem dX6_areAccountsRight_150 : decode cX6_areAccountsRight 150 = .ok (.bipush 6, 2) := by decide +kernel
theorem dX6_areAccountsRight_152 : decode cX6_areAccountsRight 152 = .ok (.invokevirtual 15, 3) := by decide +kernel
theorem dX6_areAccountsRight_155 : decode cX6_areAccountsRight 155 = .ok (.aload_n 0, 1) := by decide +kernel
theorem dX6_areAccountsRight_156 : decode cX6_areAccountsRight 156 = .ok (.getfield 91, 3) := by decide +kernel
theorem dX6_areAccountsRight_159 : decode cX6_areAccountsRight 159 = .ok (.iconst 0, 1) := by decide +kernel
theorem dX6_areAccountsRight_160 : decode cX6_areAccountsRight 160 = .ok (.iconst 5, 1) := by decide +kernel
theorem dX6_areAccountsRight_161 : decode cX6_areAccountsRight 161 = .ok (.invokevirtual 15, 3) := by decide +kernel
theorem dX6_areAccountsRight_164 : decode cX6_areAccountsRight 164 = .ok (.if_icmp .gt 7, 3) := by decide +kernel
theorem dX6_areAccountsRight_167 : decode cX6_areAccountsRight 167 = .ok (.iconst 1, 1) := by decide +kernel
theorem dX6_areAccountsRight_168 : decode cX6_areAccountsRight 168 = .ok (.goto 4, 3) := by decide +kernel
theorem dX6_areAccountsRight_171 : decode cX6_areAccountsRight 171 = .ok (.iconst 0, 1) := by decide +kernel
theorem dX6_areAccountsRight_172 : decode cX6_areAccountsRight 172 = .ok (.ireturn, 1) := by decide +kernel
theorem dX7_init_0 : decode cX7_init 0 = .ok (.aload_n 0, 1) := by decide +kernel
theorem dX7_init_1 : decode cX7_init 1 = .ok (.invokespecial 3, 3) := by decide +kernel
theorem dX7_init_4 : decode cX7_init 4 = .ok (.iload_n 1, 1) := by decide +kernel
theorem dX7_init_5 : decode cX7_init 5 = .ok (.ifCond .le 23, 3) := by decide +kernel
theorem dX7_init_8 : decode cX7_init 8 = .ok (.iload_n 1, 1) := by decide +kernel
theorem dX7_init_9 : decode cX7_init 9 = .ok (.bipush 64, 2) := by decide +kernel
theorem dX7_init_11 : decode cX7_init 11 = .ok (.if_icmp .gt 17, 3) := by decide +kernel
theorem dX7_init_14 : decode cX7_init 14 = .ok (.iload_n 2, 1) := by decide +kernel
theorem dX7_init_15 : decode cX7_init 15 = .ok (.ifCond .le 13, 3) := by decide +kernel
theorem dX7_init_18 : decode cX7_init 18 = .ok (.iload_n 2, 1) := by decide +kernel
theorem dX7_init_19 : decode cX7_init 19 = .ok (.bipush 64, 2) := by decide +kernel
theorem dX7_init_21 : decode cX7_init 21 = .ok (.if_icmp .gt 7, 3) := by decide +kernel
theorem dX7_init_24 : decode cX7_init 24 = .ok (.iconst 1, 1) := by decide +kernel
theorem dX7_init_25 : decode cX7_init 25 = .ok (.goto 4, 3) := by decide +kernel
theorem dX7_init_28 : decode cX7_init 28 = .ok (.iconst 0, 1) := by decide +kernel
theorem dX7_init_29 : decode cX7_init 29 = .ok (.istore_n 3, 1) := by decide +kernel
theorem dX7_init_30 : decode cX7_init 30 = .ok (.aload_n 0, 1) := by decide +kernel
theorem dX7_init_31 : decode cX7_init 31 = .ok (.iload_n 3, 1) := by decide +kernel
theorem dX7_init_32 : decode cX7_init 32 = .ok (.ifCond .eq 7, 3) := by decide +kernel
theorem dX7_init_35 : decode cX7_init 35 = .ok (.iload_n 1, 1) := by decide +kernel
theorem dX7_init_36 : decode cX7_init 36 = .ok (.goto 4, 3) := by decide +kernel
theorem dX7_init_39 : decode cX7_init 39 = .ok (.iconst 0, 1) := by decide +kernel
theorem dX7_init_40 : decode cX7_init 40 = .ok (.putfield 11, 3) := by decide +kernel
theorem dX7_init_43 : decode cX7_init 43 = .ok (.aload_n 0, 1) := by decide +kernel
theorem dX7_init_44 : decode cX7_init 44 = .ok (.iload_n 3, 1) := by decide +kernel
theorem dX7_init_45 : decode cX7_init 45 = .ok (.ifCond .eq 7, 3) := by decide +kernel
theorem dX7_init_48 : decode cX7_init 48 = .ok (.iload_n 2, 1) := by decide +kernel
theorem dX7_init_49 : decode cX7_init 49 = .ok (.goto 4, 3) := by decide +kernel
theorem dX7_init_52 : decode cX7_init 52 = .ok (.iconst 0, 1) := by decide +kernel
theorem dX7_init_53 : decode cX7_init 53 = .ok (.putfield 15, 3) := by decide +kernel
theorem dX7_init_56 : decode cX7_init 56 = .ok (.aload_n 0, 1) := by decide +kernel
theorem dX7_init_57 : decode cX7_init 57 = .ok (.iload_n 3, 1) := by decide +kernel
theorem dX7_init_58 : decode cX7_init 58 = .ok (.ifCond .eq 11, 3) := by decide +kernel
theorem dX7_init_61 : decode cX7_init 61 = .ok (.iload_n 1, 1) := by decide +kernel
theorem dX7_init_62 : decode cX7_init 62 = .ok (.iload_n 2, 1) := by decide +kernel
theorem dX7_init_63 : decode cX7_init 63 = .ok (.imul, 1) := by decide +kernel
theorem dX7_init_64 : decode cX7_init 64 = .ok (.newarray .int, 2) := by decide +kernel
theorem dX7_init_66 : decode cX7_init 66 = .ok (.goto 6, 3) := by decide +kernel
theorem dX7_init_69 : decode cX7_init 69 = .ok (.iconst 0, 1) := by decide +kernel
theorem dX7_init_70 : decode cX7_init 70 = .ok (.newarray .int, 2) := by decide +kernel
theorem dX7_init_72 : decode cX7_init 72 = .ok (.putfield 18, 3) := by decide +kernel
theorem dX7_init_75 : decode cX7_init 75 = .ok (.return_, 1) := by decide +kernel
theorem dX7_get_0 : decode cX7_get 0 = .ok (.iload_n 1, 1) := by decide +kernel
theorem dX7_get_1 : decode cX7_get 1 = .ok (.ifCond .lt 23, 3) := by decide +kernel
theorem dX7_get_4 : decode cX7_get 4 = .ok (.iload_n 1, 1) := by decide +kernel
theorem dX7_get_5 : decode cX7_get 5 = .ok (.aload_n 0, 1) := by decide +kernel
theorem dX7_get_6 : decode cX7_get 6 = .ok (.getfield 11, 3) := by decide +kernel
theorem dX7_get_9 : decode cX7_get 9 = .ok (.if_icmp .ge 15, 3) := by decide +kernel
theorem dX7_get_12 : decode cX7_get 12 = .ok (.iload_n 2, 1) := by decide +kernel
theorem dX7_get_13 : decode cX7_get 13 = .ok (.ifCond .lt 11, 3) := by decide +kernel
theorem dX7_get_16 : decode cX7_get 16 = .ok (.iload_n 2, 1) := by decide +kernel
theorem dX7_get_17 : decode cX7_get 17 = .ok (.aload_n 0, 1) := by decide +kernel
theorem dX7_get_18 : decode cX7_get 18 = .ok (.getfield 15, 3) := by decide +kernel
theorem dX7_get_21 : decode cX7_get 21 = .ok (.if_icmp .lt 5, 3) := by decide +kernel
theorem dX7_get_24 : decode cX7_get 24 = .ok (.iconst (-1), 1) := by decide +kernel
theorem dX7_get_25 : decode cX7_get 25 = .ok (.ireturn, 1) := by decide +kernel
theorem dX7_get_26 : decode cX7_get 26 = .ok (.iload_n 1, 1) := by decide +kernel
theorem dX7_get_27 : decode cX7_get 27 = .ok (.aload_n 0, 1) := by decide +kernel
theorem dX7_get_28 : decode cX7_get 28 = .ok (.getfield 15, 3) := by decide +kernel
theorem dX7_get_31 : decode cX7_get 31 = .ok (.imul, 1) := by decide +kernel
theorem dX7_get_32 : decode cX7_get 32 = .ok (.iload_n 2, 1) := by decide +kernel
theorem dX7_get_33 : decode cX7_get 33 = .ok (.iadd, 1) := by decide +kernel
theorem dX7_get_34 : decode cX7_get 34 = .ok (.istore_n 3, 1) := by decide +kernel
theorem dX7_get_35 : decode cX7_get 35 = .ok (.iload_n 3, 1) := by decide +kernel
theorem dX7_get_36 : decode cX7_get 36 = .ok (.aload_n 0, 1) := by decide +kernel
theorem dX7_get_37 : decode cX7_get 37 = .ok (.getfield 18, 3) := by decide +kernel
theorem dX7_get_40 : decode cX7_get 40 = .ok (.arraylength, 1) := by decide +kernel
theorem dX7_get_41 : decode cX7_get 41 = .ok (.if_icmp .ge 12, 3) := by decide +kernel
theorem dX7_get_44 : decode cX7_get 44 = .ok (.aload_n 0, 1) := by decide +kernel
theorem dX7_get_45 : decode cX7_get 45 = .ok (.getfield 18, 3) := by decide +kernel
theorem dX7_get_48 : decode cX7_get 48 = .ok (.iload_n 3, 1) := by decide +kernel
theorem dX7_get_49 : decode cX7_get 49 = .ok (.iaload, 1) := by decide +kernel
theorem dX7_get_50 : decode cX7_get 50 = .ok (.goto 4, 3) := by decide +kernel
theorem dX7_get_53 : decode cX7_get 53 = .ok (.iconst (-1), 1) := by decide +kernel
theorem dX7_get_54 : decode cX7_get 54 = .ok (.ireturn, 1) := by decide +kernel
theorem dX7_put_0 : decode cX7_put 0 = .ok (.iload_n 1, 1) := by decide +kernel
theorem dX7_put_1 : decode cX7_put 1 = .ok (.ifCond .lt 23, 3) := by decide +kernel
theorem dX7_put_4 : decode cX7_put 4 = .ok (.iload_n 1, 1) := by decide +kernel
theorem dX7_put_5 : decode cX7_put 5 = .ok (.aload_n 0, 1) := by decide +kernel
theorem dX7_put_6 : decode cX7_put 6 = .ok (.getfield 11, 3) := by decide +kernel
theorem dX7_put_9 : decode cX7_put 9 = .ok (.if_icmp .ge 15, 3) := by decide +kernel
theorem dX7_put_12 : decode cX7_put 12 = .ok (.iload_n 2, 1) := by decide +kernel
theorem dX7_put_13 : decode cX7_put 13 = .ok (.ifCond .lt 11, 3) := by decide +kernel
theorem dX7_put_16 : decode cX7_put 16 = .ok (.iload_n 2, 1) := by decide +kernel
theorem dX7_put_17 : decode cX7_put 17 = .ok (.aload_n 0, 1) := by decide +kernel
theorem dX7_put_18 : decode cX7_put 18 = .ok (.getfield 15, 3) := by decide +kernel
theorem dX7_put_21 : decode cX7_put 21 = .ok (.if_icmp .lt 4, 3) := by decide +kernel
theorem dX7_put_24 : decode cX7_put 24 = .ok (.return_, 1) := by decide +kernel
theorem dX7_put_25 : decode cX7_put 25 = .ok (.iload_n 1, 1) := by decide +kernel
theorem dX7_put_26 : decode cX7_put 26 = .ok (.aload_n 0, 1) := by decide +kernel
theorem dX7_put_27 : decode cX7_put 27 = .ok (.getfield 15, 3) := by decide +kernel
theorem dX7_put_30 : decode cX7_put 30 = .ok (.imul, 1) := by decide +kernel
theorem dX7_put_31 : decode cX7_put 31 = .ok (.iload_n 2, 1) := by decide +kernel
theorem dX7_put_32 : decode cX7_put 32 = .ok (.iadd, 1) := by decide +kernel
theorem dX7_put_33 : decode cX7_put 33 = .ok (.istore 4, 2) := by decide +kernel
theorem dX7_put_35 : decode cX7_put 35 = .ok (.iload 4, 2) := by decide +kernel
theorem dX7_put_37 : decode cX7_put 37 = .ok (.aload_n 0, 1) := by decide +kernel
theorem dX7_put_38 : decode cX7_put 38 = .ok (.getfield 18, 3) := by decide +kernel
theorem dX7_put_41 : decode cX7_put 41 = .ok (.arraylength, 1) := by decide +kernel
theorem dX7_put_42 : decode cX7_put 42 = .ok (.if_icmp .ge 11, 3) := by decide +kernel
theorem dX7_put_45 : decode cX7_put 45 = .ok (.aload_n 0, 1) := by decide +kernel
theorem dX7_put_46 : decode cX7_put 46 = .ok (.getfield 18, 3) := by decide +kernel
theorem dX7_put_49 : decode cX7_put 49 = .ok (.iload 4, 2) := by decide +kernel
theorem dX7_put_51 : decode cX7_put 51 = .ok (.iload_n 3, 1) := by decide +kernel
theorem dX7_put_52 : decode cX7_put 52 = .ok (.iastore, 1) := by decide +kernel
theorem dX7_put_53 : decode cX7_put 53 = .ok (.return_, 1) := by decide +kernel
theorem dX7_grow_0 : decode cX7_grow 0 = .ok (.iload_n 1, 1) := by decide +kernel
theorem dX7_grow_1 : decode cX7_grow 1 = .ok (.ifCond .lt 23, 3) := by decide +kernel
theorem dX7_grow_4 : decode cX7_grow 4 = .ok (.iload_n 1, 1) := by decide +kernel
theorem dX7_grow_5 : decode cX7_grow 5 = .ok (.aload_n 0, 1) := by decide +kernel
theorem dX7_grow_6 : decode cX7_grow 6 = .ok (.getfield 11, 3) := by decide +kernel
theorem dX7_grow_9 : decode cX7_grow 9 = .ok (.if_icmp .ge 15, 3) := by decide +kernel
theorem dX7_grow_12 : decode cX7_grow 12 = .ok (.iload_n 2, 1) := by decide +kernel
theorem dX7_grow_13 : decode cX7_grow 13 = .ok (.ifCond .lt 11, 3) := by decide +kernel
theorem dX7_grow_16 : decode cX7_grow 16 = .ok (.iload_n 2, 1) := by decide +kernel
theorem dX7_grow_17 : decode cX7_grow 17 = .ok (.aload_n 0, 1) := by decide +kernel
theorem dX7_grow_18 : decode cX7_grow 18 = .ok (.getfield 15, 3) := by decide +kernel
theorem dX7_grow_21 : decode cX7_grow 21 = .ok (.if_icmp .lt 4, 3) := by decide +kernel
theorem dX7_grow_24 : decode cX7_grow 24 = .ok (.return_, 1) := by decide +kernel
theorem dX7_grow_25 : decode cX7_grow 25 = .ok (.iload_n 1, 1) := by decide +kernel
theorem dX7_grow_26 : decode cX7_grow 26 = .ok (.aload_n 0, 1) := by decide +kernel
theorem dX7_grow_27 : decode cX7_grow 27 = .ok (.getfield 15, 3) := by decide +kernel
theorem dX7_grow_30 : decode cX7_grow 30 = .ok (.imul, 1) := by decide +kernel
theorem dX7_grow_31 : decode cX7_grow 31 = .ok (.iload_n 2, 1) := by decide +kernel
theorem dX7_grow_32 : decode cX7_grow 32 = .ok (.iadd, 1) := by decide +kernel
theorem dX7_grow_33 : decode cX7_grow 33 = .ok (.istore 4, 2) := by decide +kernel
theorem dX7_grow_35 : decode cX7_grow 35 = .ok (.iload 4, 2) := by decide +kernel
theorem dX7_grow_37 : decode cX7_grow 37 = .ok (.aload_n 0, 1) := by decide +kernel
theorem dX7_grow_38 : decode cX7_grow 38 = .ok (.getfield 18, 3) := by decide +kernel
theorem dX7_grow_41 : decode cX7_grow 41 = .ok (.arraylength, 1) := by decide +kernel
theorem dX7_grow_42 : decode cX7_grow 42 = .ok (.if_icmp .ge 14, 3) := by decide +kernel
theorem dX7_grow_45 : decode cX7_grow 45 = .ok (.aload_n 0, 1) := by decide +kernel
theorem dX7_grow_46 : decode cX7_grow 46 = .ok (.getfield 18, 3) := by decide +kernel
theorem dX7_grow_49 : decode cX7_grow 49 = .ok (.iload 4, 2) := by decide +kernel
theorem dX7_grow_51 : decode cX7_grow 51 = .ok (.dup2, 1) := by decide +kernel
theorem dX7_grow_52 : decode cX7_grow 52 = .ok (.iaload, 1) := by decide +kernel
theorem dX7_grow_53 : decode cX7_grow 53 = .ok (.iload_n 3, 1) := by decide +kernel
theorem dX7_grow_54 : decode cX7_grow 54 = .ok (.iadd, 1) := by decide +kernel
theorem dX7_grow_55 : decode cX7_grow 55 = .ok (.iastore, 1) := by decide +kernel
theorem dX7_grow_56 : decode cX7_grow 56 = .ok (.return_, 1) := by decide +kernel
theorem dX7_clearTo_0 : decode cX7_clearTo 0 = .ok (.iconst 0, 1) := by decide +kernel
theorem dX7_clearTo_1 : decode cX7_clearTo 1 = .ok (.istore_n 2, 1) := by decide +kernel
theorem dX7_clearTo_2 : decode cX7_clearTo 2 = .ok (.iload_n 2, 1) := by decide +kernel
theorem dX7_clearTo_3 : decode cX7_clearTo 3 = .ok (.aload_n 0, 1) := by decide +kernel
theorem dX7_clearTo_4 : decode cX7_clearTo 4 = .ok (.getfield 18, 3) := by decide +kernel
theorem dX7_clearTo_7 : decode cX7_clearTo 7 = .ok (.arraylength, 1) := by decide +kernel
theorem dX7_clearTo_8 : decode cX7_clearTo 8 = .ok (.if_icmp .ge 16, 3) := by decide +kernel
theorem dX7_clearTo_11 : decode cX7_clearTo 11 = .ok (.aload_n 0, 1) := by decide +kernel
theorem dX7_clearTo_12 : decode cX7_clearTo 12 = .ok (.getfield 18, 3) := by decide +kernel
theorem dX7_clearTo_15 : decode cX7_clearTo 15 = .ok (.iload_n 2, 1) := by decide +kernel
theorem dX7_clearTo_16 : decode cX7_clearTo 16 = .ok (.iload_n 1, 1) := by decide +kernel
theorem dX7_clearTo_17 : decode cX7_clearTo 17 = .ok (.iastore, 1) := by decide +kernel
theorem dX7_clearTo_18 : decode cX7_clearTo 18 = .ok (.iinc 2 1, 3) := by decide +kernel
theorem dX7_clearTo_21 : decode cX7_clearTo 21 = .ok (.goto (-19), 3) := by decide +kernel
theorem dX7_clearTo_24 : decode cX7_clearTo 24 = .ok (.return_, 1) := by decide +kernel
theorem dX7_copyFrom_0 : decode cX7_copyFrom 0 = .ok (.aload_n 1, 1) := by decide +kernel
theorem dX7_copyFrom_1 : decode cX7_copyFrom 1 = .ok (.getfield 18, 3) := by decide +kernel
theorem dX7_copyFrom_4 : decode cX7_copyFrom 4 = .ok (.iconst 0, 1) := by decide +kernel
theorem dX7_copyFrom_5 : decode cX7_copyFrom 5 = .ok (.aload_n 0, 1) := by decide +kernel
theorem dX7_copyFrom_6 : decode cX7_copyFrom 6 = .ok (.getfield 18, 3) := by decide +kernel
theorem dX7_copyFrom_9 : decode cX7_copyFrom 9 = .ok (.iconst 0, 1) := by decide +kernel
theorem dX7_copyFrom_10 : decode cX7_copyFrom 10 = .ok (.aload_n 0, 1) := by decide +kernel
theorem dX7_copyFrom_11 : decode cX7_copyFrom 11 = .ok (.getfield 18, 3) := by decide +kernel
theorem dX7_copyFrom_14 : decode cX7_copyFrom 14 = .ok (.arraylength, 1) := by decide +kernel
theorem dX7_copyFrom_15 : decode cX7_copyFrom 15 = .ok (.aload_n 1, 1) := by decide +kernel
theorem dX7_copyFrom_16 : decode cX7_copyFrom 16 = .ok (.getfield 18, 3) := by decide +kernel
theorem dX7_copyFrom_19 : decode cX7_copyFrom 19 = .ok (.arraylength, 1) := by decide +kernel
theorem dX7_copyFrom_20 : decode cX7_copyFrom 20 = .ok (.invokestatic 22, 3) := by decide +kernel
theorem dX7_copyFrom_23 : decode cX7_copyFrom 23 = .ok (.invokestatic 28, 3) := by decide +kernel
theorem dX7_copyFrom_26 : decode cX7_copyFrom 26 = .ok (.return_, 1) := by decide +kernel
theorem dX7_removeRow_0 : decode cX7_removeRow 0 = .ok (.iload_n 1, 1) := by decide +kernel
theorem dX7_removeRow_1 : decode cX7_removeRow 1 = .ok (.iconst 1, 1) := by decide +kernel
theorem dX7_removeRow_2 : decode cX7_removeRow 2 = .ok (.iadd, 1) := by decide +kernel
theorem dX7_removeRow_3 : decode cX7_removeRow 3 = .ok (.istore_n 2, 1) := by decide +kernel
theorem dX7_removeRow_4 : decode cX7_removeRow 4 = .ok (.iload_n 2, 1) := by decide +kernel
theorem dX7_removeRow_5 : decode cX7_removeRow 5 = .ok (.aload_n 0, 1) := by decide +kernel
theorem dX7_removeRow_6 : decode cX7_removeRow 6 = .ok (.getfield 11, 3) := by decide +kernel
theorem dX7_removeRow_9 : decode cX7_removeRow 9 = .ok (.if_icmp .ge 39, 3) := by decide +kernel
theorem dX7_removeRow_12 : decode cX7_removeRow 12 = .ok (.iconst 0, 1) := by decide +kernel
theorem dX7_removeRow_13 : decode cX7_removeRow 13 = .ok (.istore_n 3, 1) := by decide +kernel
theorem dX7_removeRow_14 : decode cX7_removeRow 14 = .ok (.iload_n 3, 1) := by decide +kernel
theorem dX7_removeRow_15 : decode cX7_removeRow 15 = .ok (.aload_n 0, 1) := by decide +kernel
theorem dX7_removeRow_16 : decode cX7_removeRow 16 = .ok (.getfield 15, 3) := by decide +kernel
theorem dX7_removeRow_19 : decode cX7_removeRow 19 = .ok (.if_icmp .ge 23, 3) := by decide +kernel
theorem dX7_removeRow_22 : decode cX7_removeRow 22 = .ok (.aload_n 0, 1) := by decide +kernel
theorem dX7_removeRow_23 : decode cX7_removeRow 23 = .ok (.iload_n 2, 1) := by decide +kernel
theorem dX7_removeRow_24 : decode cX7_removeRow 24 = .ok (.iconst 1, 1) := by decide +kernel
theorem dX7_removeRow_25 : decode cX7_removeRow 25 = .ok (.isub, 1) := by decide +kernel
theorem dX7_removeRow_26 : decode cX7_removeRow 26 = .ok (.iload_n 3, 1) := by decide +kernel
theorem dX7_removeRow_27 : decode cX7_removeRow 27 = .ok (.aload_n 0, 1) := by decide +kernel
theorem dX7_removeRow_28 : decode cX7_removeRow 28 = .ok (.iload_n 2, 1) := by decide +kernel
theorem dX7_removeRow_29 : decode cX7_removeRow 29 = .ok (.iload_n 3, 1) := by decide +kernel
theorem dX7_removeRow_30 : decode cX7_removeRow 30 = .ok (.invokevirtual 34, 3) := by decide +kernel
theorem dX7_removeRow_33 : decode cX7_removeRow 33 = .ok (.invokevirtual 37, 3) := by decide +kernel
theorem dX7_removeRow_36 : decode cX7_removeRow 36 = .ok (.iinc 3 1, 3) := by decide +kernel
theorem dX7_removeRow_39 : decode cX7_removeRow 39 = .ok (.goto (-25), 3) := by decide +kernel
theorem dX7_removeRow_42 : decode cX7_removeRow 42 = .ok (.iinc 2 1, 3) := by decide +kernel
theorem dX7_removeRow_45 : decode cX7_removeRow 45 = .ok (.goto (-41), 3) := by decide +kernel
theorem dX7_removeRow_48 : decode cX7_removeRow 48 = .ok (.return_, 1) := by decide +kernel
theorem dX8_run_0 : decode cX8_run 0 = .ok (.iconst 0, 1) := by decide +kernel
theorem dX8_run_1 : decode cX8_run 1 = .ok (.istore_n 2, 1) := by decide +kernel
theorem dX8_run_2 : decode cX8_run 2 = .ok (.iload_n 2, 1) := by decide +kernel
theorem dX8_run_3 : decode cX8_run 3 = .ok (.iload_n 1, 1) := by decide +kernel
theorem dX8_run_4 : decode cX8_run 4 = .ok (.if_icmp .ge 53, 3) := by decide +kernel
theorem dX8_run_7 : decode cX8_run 7 = .ok (.aload_n 0, 1) := by decide +kernel
theorem dX8_run_8 : decode cX8_run 8 = .ok (.dup, 1) := by decide +kernel
theorem dX8_run_9 : decode cX8_run 9 = .ok (.getfield 9, 3) := by decide +kernel
theorem dX8_run_12 : decode cX8_run 12 = .ok (.iconst 1, 1) := by decide +kernel
theorem dX8_run_13 : decode cX8_run 13 = .ok (.iadd, 1) := by decide +kernel
theorem dX8_run_14 : decode cX8_run 14 = .ok (.putfield 9, 3) := by decide +kernel
theorem dX8_run_17 : decode cX8_run 17 = .ok (.aload_n 0, 1) := by decide +kernel
theorem dX8_run_18 : decode cX8_run 18 = .ok (.iconst 0, 1) := by decide +kernel
theorem dX8_run_19 : decode cX8_run 19 = .ok (.iconst 1, 1) := by decide +kernel
theorem dX8_run_20 : decode cX8_run 20 = .ok (.invokevirtual 15, 3) := by decide +kernel
theorem dX8_run_23 : decode cX8_run 23 = .ok (.aload_n 0, 1) := by decide +kernel
theorem dX8_run_24 : decode cX8_run 24 = .ok (.invokestatic 19, 3) := by decide +kernel
theorem dX8_run_27 : decode cX8_run 27 = .ok (.aload_n 0, 1) := by decide +kernel
theorem dX8_run_28 : decode cX8_run 28 = .ok (.getfield 9, 3) := by decide +kernel
theorem dX8_run_31 : decode cX8_run 31 = .ok (.bipush 60, 2) := by decide +kernel
theorem dX8_run_33 : decode cX8_run 33 = .ok (.irem, 1) := by decide +kernel
theorem dX8_run_34 : decode cX8_run 34 = .ok (.aload_n 0, 1) := by decide +kernel
theorem dX8_run_35 : decode cX8_run 35 = .ok (.bipush 9, 2) := by decide +kernel
theorem dX8_run_37 : decode cX8_run 37 = .ok (.invokevirtual 25, 3) := by decide +kernel
theorem dX8_run_40 : decode cX8_run 40 = .ok (.if_icmp .ge 7, 3) := by decide +kernel
theorem dX8_run_43 : decode cX8_run 43 = .ok (.aload_n 0, 1) := by decide +kernel
theorem dX8_run_44 : decode cX8_run 44 = .ok (.invokestatic 29, 3) := by decide +kernel
theorem dX8_run_47 : decode cX8_run 47 = .ok (.aload_n 0, 1) := by decide +kernel
theorem dX8_run_48 : decode cX8_run 48 = .ok (.invokestatic 32, 3) := by decide +kernel
theorem dX8_run_51 : decode cX8_run 51 = .ok (.iinc 2 1, 3) := by decide +kernel
theorem dX8_run_54 : decode cX8_run 54 = .ok (.goto (-52), 3) := by decide +kernel
theorem dX8_run_57 : decode cX8_run 57 = .ok (.return_, 1) := by decide +kernel
theorem dX8_landAll_0 : decode cX8_landAll 0 = .ok (.aload_n 0, 1) := by decide +kernel
theorem dX8_landAll_1 : decode cX8_landAll 1 = .ok (.getfield 35, 3) := by decide +kernel
theorem dX8_landAll_4 : decode cX8_landAll 4 = .ok (.istore_n 1, 1) := by decide +kernel
theorem dX8_landAll_5 : decode cX8_landAll 5 = .ok (.iconst 0, 1) := by decide +kernel
theorem dX8_landAll_6 : decode cX8_landAll 6 = .ok (.istore_n 2, 1) := by decide +kernel
theorem dX8_landAll_7 : decode cX8_landAll 7 = .ok (.iload_n 2, 1) := by decide +kernel
theorem dX8_landAll_8 : decode cX8_landAll 8 = .ok (.iload_n 1, 1) := by decide +kernel
theorem dX8_landAll_9 : decode cX8_landAll 9 = .ok (.if_icmp .ge 69, 3) := by decide +kernel
theorem dX8_landAll_12 : decode cX8_landAll 12 = .ok (.aload_n 0, 1) := by decide +kernel
theorem dX8_landAll_13 : decode cX8_landAll 13 = .ok (.getfield 38, 3) := by decide +kernel
theorem dX8_landAll_16 : decode cX8_landAll 16 = .ok (.iload_n 2, 1) := by decide +kernel
theorem dX8_landAll_17 : decode cX8_landAll 17 = .ok (.iconst 3, 1) := by decide +kernel
theorem dX8_landAll_18 : decode cX8_landAll 18 = .ok (.invokevirtual 42, 3) := by decide +kernel
theorem dX8_landAll_21 : decode cX8_landAll 21 = .ok (.iconst 1, 1) := by decide +kernel
theorem dX8_landAll_22 : decode cX8_landAll 22 = .ok (.if_icmp .ne 50, 3) := by decide +kernel
theorem dX8_landAll_25 : decode cX8_landAll 25 = .ok (.aload_n 0, 1) := by decide +kernel
theorem dX8_landAll_26 : decode cX8_landAll 26 = .ok (.getfield 38, 3) := by decide +kernel
theorem dX8_landAll_29 : decode cX8_landAll 29 = .ok (.iload_n 2, 1) := by decide +kernel
theorem dX8_landAll_30 : decode cX8_landAll 30 = .ok (.iconst 5, 1) := by decide +kernel
theorem dX8_landAll_31 : decode cX8_landAll 31 = .ok (.invokevirtual 42, 3) := by decide +kernel
theorem dX8_landAll_34 : decode cX8_landAll 34 = .ok (.aload_n 0, 1) := by decide +kernel
theorem dX8_landAll_35 : decode cX8_landAll 35 = .ok (.getfield 9, 3) := by decide +kernel
theorem dX8_landAll_38 : decode cX8_landAll 38 = .ok (.if_icmp .ne 34, 3) := by decide +kernel
theorem dX8_landAll_41 : decode cX8_landAll 41 = .ok (.aload_n 0, 1) := by decide +kernel
theorem dX8_landAll_42 : decode cX8_landAll 42 = .ok (.iload_n 2, 1) := by decide +kernel
theorem dX8_landAll_43 : decode cX8_landAll 43 = .ok (.invokestatic 48, 3) := by decide +kernel
theorem dX8_landAll_46 : decode cX8_landAll 46 = .ok (.aload_n 0, 1) := by decide +kernel
theorem dX8_landAll_47 : decode cX8_landAll 47 = .ok (.getfield 38, 3) := by decide +kernel
theorem dX8_landAll_50 : decode cX8_landAll 50 = .ok (.iload_n 2, 1) := by decide +kernel
theorem dX8_landAll_51 : decode cX8_landAll 51 = .ok (.iconst 4, 1) := by decide +kernel
theorem dX8_landAll_52 : decode cX8_landAll 52 = .ok (.invokevirtual 42, 3) := by decide +kernel
theorem dX8_landAll_55 : decode cX8_landAll 55 = .ok (.aload_n 0, 1) := by decide +kernel
theorem dX8_landAll_56 : decode cX8_landAll 56 = .ok (.getfield 38, 3) := by decide +kernel
theorem dX8_landAll_59 : decode cX8_landAll 59 = .ok (.iload_n 2, 1) := by decide +kernel
theorem dX8_landAll_60 : decode cX8_landAll 60 = .ok (.iconst 1, 1) := by decide +kernel
theorem dX8_landAll_61 : decode cX8_landAll 61 = .ok (.invokevirtual 42, 3) := by decide +kernel
theorem dX8_landAll_64 : decode cX8_landAll 64 = .ok (.if_icmp .ne 8, 3) := by decide +kernel
theorem dX8_landAll_67 : decode cX8_landAll 67 = .ok (.aload_n 0, 1) := by decide +kernel
theorem dX8_landAll_68 : decode cX8_landAll 68 = .ok (.iload_n 2, 1) := by decide +kernel
theorem dX8_landAll_69 : decode cX8_landAll 69 = .ok (.invokestatic 52, 3) := by decide +kernel
theorem dX8_landAll_72 : decode cX8_landAll 72 = .ok (.iinc 2 1, 3) := by decide +kernel
theorem dX8_landAll_75 : decode cX8_landAll 75 = .ok (.goto (-68), 3) := by decide +kernel
theorem dX8_landAll_78 : decode cX8_landAll 78 = .ok (.return_, 1) := by decide +kernel
theorem dX8_land_0 : decode cX8_land 0 = .ok (.aload_n 0, 1) := by decide +kernel
theorem dX8_land_1 : decode cX8_land 1 = .ok (.getfield 38, 3) := by decide +kernel
theorem dX8_land_4 : decode cX8_land 4 = .ok (.iload_n 1, 1) := by decide +kernel
theorem dX8_land_5 : decode cX8_land 5 = .ok (.iconst 2, 1) := by decide +kernel
theorem dX8_land_6 : decode cX8_land 6 = .ok (.invokevirtual 42, 3) := by decide +kernel
theorem dX8_land_9 : decode cX8_land 9 = .ok (.istore_n 2, 1) := by decide +kernel
theorem dX8_land_10 : decode cX8_land 10 = .ok (.aload_n 0, 1) := by decide +kernel
theorem dX8_land_11 : decode cX8_land 11 = .ok (.aload_n 0, 1) := by decide +kernel
theorem dX8_land_12 : decode cX8_land 12 = .ok (.getfield 38, 3) := by decide +kernel
theorem dX8_land_15 : decode cX8_land 15 = .ok (.iload_n 1, 1) := by decide +kernel
theorem dX8_land_16 : decode cX8_land 16 = .ok (.bipush 12, 2) := by decide +kernel
theorem dX8_land_18 : decode cX8_land 18 = .ok (.invokevirtual 42, 3) := by decide +kernel
theorem dX8_land_21 : decode cX8_land 21 = .ok (.aload_n 0, 1) := by decide +kernel
theorem dX8_land_22 : decode cX8_land 22 = .ok (.getfield 38, 3) := by decide +kernel
theorem dX8_land_25 : decode cX8_land 25 = .ok (.iload_n 1, 1) := by decide +kernel
theorem dX8_land_26 : decode cX8_land 26 = .ok (.iconst 4, 1) := by decide +kernel
theorem dX8_land_27 : decode cX8_land 27 = .ok (.invokevirtual 42, 3) := by decide +kernel
theorem dX8_land_30 : decode cX8_land 30 = .ok (.iload_n 2, 1) := by decide +kernel
theorem dX8_land_31 : decode cX8_land 31 = .ok (.aload_n 0, 1) := by decide +kernel
theorem dX8_land_32 : decode cX8_land 32 = .ok (.bipush 8, 2) := by decide +kernel
theorem dX8_land_34 : decode cX8_land 34 = .ok (.invokevirtual 25, 3) := by decide +kernel
theorem dX8_land_37 : decode cX8_land 37 = .ok (.invokevirtual 55, 3) := by decide +kernel
theorem dX8_land_40 : decode cX8_land 40 = .ok (.istore_n 3, 1) := by decide +kernel
theorem dX8_land_41 : decode cX8_land 41 = .ok (.aload_n 0, 1) := by decide +kernel
theorem dX8_land_42 : decode cX8_land 42 = .ok (.getfield 38, 3) := by decide +kernel
theorem dX8_land_45 : decode cX8_land 45 = .ok (.iload_n 1, 1) := by decide +kernel
theorem dX8_land_46 : decode cX8_land 46 = .ok (.bipush 10, 2) := by decide +kernel
theorem dX8_land_48 : decode cX8_land 48 = .ok (.invokevirtual 42, 3) := by decide +kernel
theorem dX8_land_51 : decode cX8_land 51 = .ok (.istore 4, 2) := by decide +kernel
theorem dX8_land_53 : decode cX8_land 53 = .ok (.iconst 0, 1) := by decide +kernel
theorem dX8_land_54 : decode cX8_land 54 = .ok (.istore 5, 2) := by decide +kernel
theorem dX8_land_56 : decode cX8_land 56 = .ok (.iload 5, 2) := by decide +kernel
theorem dX8_land_58 : decode cX8_land 58 = .ok (.iload_n 3, 1) := by decide +kernel
theorem dX8_land_59 : decode cX8_land 59 = .ok (.if_icmp .ge 26, 3) := by decide +kernel
theorem dX8_land_62 : decode cX8_land 62 = .ok (.iload_n 2, 1) := by decide +kernel
theorem dX8_land_63 : decode cX8_land 63 = .ok (.ifCond .le 22, 3) := by decide +kernel
theorem dX8_land_66 : decode cX8_land 66 = .ok (.iload 4, 2) := by decide +kernel
theorem dX8_land_68 : decode cX8_land 68 = .ok (.iload_n 1, 1) := by decide +kernel
theorem dX8_land_69 : decode cX8_land 69 = .ok (.iload 5, 2) := by decide +kernel
theorem dX8_land_71 : decode cX8_land 71 = .ok (.iadd, 1) := by decide +kernel
theorem dX8_land_72 : decode cX8_land 72 = .ok (.iload_n 2, 1) := by decide +kernel
theorem dX8_land_73 : decode cX8_land 73 = .ok (.irem, 1) := by decide +kernel
theorem dX8_land_74 : decode cX8_land 74 = .ok (.invokestatic 59, 3) := by decide +kernel
theorem dX8_land_77 : decode cX8_land 77 = .ok (.istore 4, 2) := by decide +kernel
theorem dX8_land_79 : decode cX8_land 79 = .ok (.iinc 5 1, 3) := by decide +kernel
theorem dX8_land_82 : decode cX8_land 82 = .ok (.goto (-26), 3) := by decide +kernel
theorem dX8_land_85 : decode cX8_land 85 = .ok (.aload_n 0, 1) := by decide +kernel
theorem dX8_land_86 : decode cX8_land 86 = .ok (.getfield 38, 3) := by decide +kernel
theorem dX8_land_89 : decode cX8_land 89 = .ok (.iload_n 1, 1) := by decide +kernel
theorem dX8_land_90 : decode cX8_land 90 = .ok (.bipush 10, 2) := by decide +kernel
theorem dX8_land_92 : decode cX8_land 92 = .ok (.iload 4, 2) := by decide +kernel
theorem dX8_land_94 : decode cX8_land 94 = .ok (.invokevirtual 62, 3) := by decide +kernel
theorem dX8_land_97 : decode cX8_land 97 = .ok (.aload_n 0, 1) := by decide +kernel
theorem dX8_land_98 : decode cX8_land 98 = .ok (.getfield 38, 3) := by decide +kernel
theorem dX8_land_101 : decode cX8_land 101 = .ok (.iload_n 1, 1) := by decide +kernel
theorem dX8_land_102 : decode cX8_land 102 = .ok (.iconst 3, 1) := by decide +kernel
theorem dX8_land_103 : decode cX8_land 103 = .ok (.iconst 0, 1) := by decide +kernel
theorem dX8_land_104 : decode cX8_land 104 = .ok (.invokevirtual 62, 3) := by decide +kernel
theorem dX8_land_107 : decode cX8_land 107 = .ok (.aload_n 0, 1) := by decide +kernel
theorem dX8_land_108 : decode cX8_land 108 = .ok (.getfield 38, 3) := by decide +kernel
theorem dX8_land_111 : decode cX8_land 111 = .ok (.iload_n 1, 1) := by decide +kernel
theorem dX8_land_112 : decode cX8_land 112 = .ok (.iconst 5, 1) := by decide +kernel
theorem dX8_land_113 : decode cX8_land 113 = .ok (.iconst (-1), 1) := by decide +kernel
theorem dX8_land_114 : decode cX8_land 114 = .ok (.invokevirtual 62, 3) := by decide +kernel
theorem dX8_land_117 : decode cX8_land 117 = .ok (.aload_n 0, 1) := by decide +kernel
theorem dX8_land_118 : decode cX8_land 118 = .ok (.iconst 4, 1) := by decide +kernel
theorem dX8_land_119 : decode cX8_land 119 = .ok (.iload_n 3, 1) := by decide +kernel
theorem dX8_land_120 : decode cX8_land 120 = .ok (.invokevirtual 15, 3) := by decide +kernel
theorem dX8_land_123 : decode cX8_land 123 = .ok (.return_, 1) := by decide +kernel
theorem dX8_raised_0 : decode cX8_raised 0 = .ok (.iconst 3, 1) := by decide +kernel
theorem dX8_raised_1 : decode cX8_raised 1 = .ok (.iload_n 1, 1) := by decide +kernel
theorem dX8_raised_2 : decode cX8_raised 2 = .ok (.imul, 1) := by decide +kernel
theorem dX8_raised_3 : decode cX8_raised 3 = .ok (.istore_n 2, 1) := by decide +kernel
theorem dX8_raised_4 : decode cX8_raised 4 = .ok (.iload_n 0, 1) := by decide +kernel
theorem dX8_raised_5 : decode cX8_raised 5 = .ok (.iload_n 1, 1) := by decide +kernel
theorem dX8_raised_6 : decode cX8_raised 6 = .ok (.invokestatic 66, 3) := by decide +kernel
theorem dX8_raised_9 : decode cX8_raised 9 = .ok (.iconst 1, 1) := by decide +kernel
theorem dX8_raised_10 : decode cX8_raised 10 = .ok (.iadd, 1) := by decide +kernel
theorem dX8_raised_11 : decode cX8_raised 11 = .ok (.bipush 7, 2) := by decide +kernel
theorem dX8_raised_13 : decode cX8_raised 13 = .ok (.iand, 1) := by decide +kernel
theorem dX8_raised_14 : decode cX8_raised 14 = .ok (.istore_n 3, 1) := by decide +kernel
theorem dX8_raised_15 : decode cX8_raised 15 = .ok (.iload_n 0, 1) := by decide +kernel
theorem dX8_raised_16 : decode cX8_raised 16 = .ok (.bipush 7, 2) := by decide +kernel
theorem dX8_raised_18 : decode cX8_raised 18 = .ok (.iload_n 2, 1) := by decide +kernel
theorem dX8_raised_19 : decode cX8_raised 19 = .ok (.ishl, 1) := by decide +kernel
theorem dX8_raised_20 : decode cX8_raised 20 = .ok (.iconst (-1), 1) := by decide +kernel
theorem dX8_raised_21 : decode cX8_raised 21 = .ok (.ixor, 1) := by decide +kernel
theorem dX8_raised_22 : decode cX8_raised 22 = .ok (.iand, 1) := by decide +kernel
theorem dX8_raised_23 : decode cX8_raised 23 = .ok (.iload_n 3, 1) := by decide +kernel
theorem dX8_raised_24 : decode cX8_raised 24 = .ok (.iload_n 2, 1) := by decide +kernel
theorem dX8_raised_25 : decode cX8_raised 25 = .ok (.ishl, 1) := by decide +kernel
theorem dX8_raised_26 : decode cX8_raised 26 = .ok (.ior, 1) := by decide +kernel
theorem dX8_raised_27 : decode cX8_raised 27 = .ok (.ireturn, 1) := by decide +kernel
theorem dX8_reachGoal_0 : decode cX8_reachGoal 0 = .ok (.aload_n 0, 1) := by decide +kernel
theorem dX8_reachGoal_1 : decode cX8_reachGoal 1 = .ok (.getfield 38, 3) := by decide +kernel
theorem dX8_reachGoal_4 : decode cX8_reachGoal 4 = .ok (.iload_n 1, 1) := by decide +kernel
theorem dX8_reachGoal_5 : decode cX8_reachGoal 5 = .ok (.bipush 9, 2) := by decide +kernel
theorem dX8_reachGoal_7 : decode cX8_reachGoal 7 = .ok (.invokevirtual 42, 3) := by decide +kernel
theorem dX8_reachGoal_10 : decode cX8_reachGoal 10 = .ok (.istore_n 2, 1) := by decide +kernel
theorem dX8_reachGoal_11 : decode cX8_reachGoal 11 = .ok (.aload_n 0, 1) := by decide +kernel
theorem dX8_reachGoal_12 : decode cX8_reachGoal 12 = .ok (.getfield 38, 3) := by decide +kernel
theorem dX8_reachGoal_15 : decode cX8_reachGoal 15 = .ok (.iload_n 1, 1) := by decide +kernel
theorem dX8_reachGoal_16 : decode cX8_reachGoal 16 = .ok (.bipush 10, 2) := by decide +kernel
theorem dX8_reachGoal_18 : decode cX8_reachGoal 18 = .ok (.invokevirtual 42, 3) := by decide +kernel
theorem dX8_reachGoal_21 : decode cX8_reachGoal 21 = .ok (.iload_n 2, 1) := by decide +kernel
theorem dX8_reachGoal_22 : decode cX8_reachGoal 22 = .ok (.if_icmp .ne 7, 3) := by decide +kernel
theorem dX8_reachGoal_25 : decode cX8_reachGoal 25 = .ok (.iconst 1, 1) := by decide +kernel
theorem dX8_reachGoal_26 : decode cX8_reachGoal 26 = .ok (.goto 4, 3) := by decide +kernel
theorem dX8_reachGoal_29 : decode cX8_reachGoal 29 = .ok (.iconst 0, 1) := by decide +kernel
theorem dX8_reachGoal_30 : decode cX8_reachGoal 30 = .ok (.istore_n 3, 1) := by decide +kernel
theorem dX8_reachGoal_31 : decode cX8_reachGoal 31 = .ok (.iload_n 3, 1) := by decide +kernel
theorem dX8_reachGoal_32 : decode cX8_reachGoal 32 = .ok (.ifCond .ne 70, 3) := by decide +kernel
theorem dX8_reachGoal_35 : decode cX8_reachGoal 35 = .ok (.aload_n 0, 1) := by decide +kernel
theorem dX8_reachGoal_36 : decode cX8_reachGoal 36 = .ok (.getfield 38, 3) := by decide +kernel
theorem dX8_reachGoal_39 : decode cX8_reachGoal 39 = .ok (.iload_n 1, 1) := by decide +kernel
theorem dX8_reachGoal_40 : decode cX8_reachGoal 40 = .ok (.bipush 8, 2) := by decide +kernel
theorem dX8_reachGoal_42 : decode cX8_reachGoal 42 = .ok (.invokevirtual 42, 3) := by decide +kernel
theorem dX8_reachGoal_45 : decode cX8_reachGoal 45 = .ok (.aload_n 0, 1) := by decide +kernel
theorem dX8_reachGoal_46 : decode cX8_reachGoal 46 = .ok (.bipush 10, 2) := by decide +kernel
theorem dX8_reachGoal_48 : decode cX8_reachGoal 48 = .ok (.invokevirtual 25, 3) := by decide +kernel
theorem dX8_reachGoal_51 : decode cX8_reachGoal 51 = .ok (.if_icmp .ge 51, 3) := by decide +kernel
theorem dX8_reachGoal_54 : decode cX8_reachGoal 54 = .ok (.aload_n 0, 1) := by decide +kernel
theorem dX8_reachGoal_55 : decode cX8_reachGoal 55 = .ok (.getfield 38, 3) := by decide +kernel
theorem dX8_reachGoal_58 : decode cX8_reachGoal 58 = .ok (.iload_n 1, 1) := by decide +kernel
theorem dX8_reachGoal_59 : decode cX8_reachGoal 59 = .ok (.bipush 8, 2) := by decide +kernel
theorem dX8_reachGoal_61 : decode cX8_reachGoal 61 = .ok (.iconst 1, 1) := by decide +kernel
theorem dX8_reachGoal_62 : decode cX8_reachGoal 62 = .ok (.invokevirtual 69, 3) := by decide +kernel
theorem dX8_reachGoal_65 : decode cX8_reachGoal 65 = .ok (.aload_n 0, 1) := by decide +kernel
theorem dX8_reachGoal_66 : decode cX8_reachGoal 66 = .ok (.getfield 38, 3) := by decide +kernel
theorem dX8_reachGoal_69 : decode cX8_reachGoal 69 = .ok (.iload_n 1, 1) := by decide +kernel
theorem dX8_reachGoal_70 : decode cX8_reachGoal 70 = .ok (.bipush 10, 2) := by decide +kernel
theorem dX8_reachGoal_72 : decode cX8_reachGoal 72 = .ok (.iload_n 2, 1) := by decide +kernel
theorem dX8_reachGoal_73 : decode cX8_reachGoal 73 = .ok (.invokevirtual 62, 3) := by decide +kernel
theorem dX8_reachGoal_76 : decode cX8_reachGoal 76 = .ok (.aload_n 0, 1) := by decide +kernel
theorem dX8_reachGoal_77 : decode cX8_reachGoal 77 = .ok (.getfield 38, 3) := by decide +kernel
theorem dX8_reachGoal_80 : decode cX8_reachGoal 80 = .ok (.iload_n 1, 1) := by decide +kernel
theorem dX8_reachGoal_81 : decode cX8_reachGoal 81 = .ok (.iconst 4, 1) := by decide +kernel
theorem dX8_reachGoal_82 : decode cX8_reachGoal 82 = .ok (.aload_n 0, 1) := by decide +kernel
theorem dX8_reachGoal_83 : decode cX8_reachGoal 83 = .ok (.getfield 38, 3) := by decide +kernel
theorem dX8_reachGoal_86 : decode cX8_reachGoal 86 = .ok (.iload_n 1, 1) := by decide +kernel
theorem dX8_reachGoal_87 : decode cX8_reachGoal 87 = .ok (.iconst 0, 1) := by decide +kernel
theorem dX8_reachGoal_88 : decode cX8_reachGoal 88 = .ok (.invokevirtual 42, 3) := by decide +kernel
theorem dX8_reachGoal_91 : decode cX8_reachGoal 91 = .ok (.invokevirtual 62, 3) := by decide +kernel
theorem dX8_reachGoal_94 : decode cX8_reachGoal 94 = .ok (.aload_n 0, 1) := by decide +kernel
theorem dX8_reachGoal_95 : decode cX8_reachGoal 95 = .ok (.bipush 7, 2) := by decide +kernel
theorem dX8_reachGoal_97 : decode cX8_reachGoal 97 = .ok (.iconst 1, 1) := by decide +kernel
theorem dX8_reachGoal_98 : decode cX8_reachGoal 98 = .ok (.invokevirtual 15, 3) := by decide +kernel
theorem dX8_reachGoal_101 : decode cX8_reachGoal 101 = .ok (.return_, 1) := by decide +kernel
theorem dX8_reachGoal_102 : decode cX8_reachGoal 102 = .ok (.aload_n 0, 1) := by decide +kernel
theorem dX8_reachGoal_103 : decode cX8_reachGoal 103 = .ok (.getfield 38, 3) := by decide +kernel
theorem dX8_reachGoal_106 : decode cX8_reachGoal 106 = .ok (.iload_n 1, 1) := by decide +kernel
theorem dX8_reachGoal_107 : decode cX8_reachGoal 107 = .ok (.iconst 3, 1) := by decide +kernel
theorem dX8_reachGoal_108 : decode cX8_reachGoal 108 = .ok (.iconst 2, 1) := by decide +kernel
theorem dX8_reachGoal_109 : decode cX8_reachGoal 109 = .ok (.invokevirtual 62, 3) := by decide +kernel
theorem dX8_reachGoal_112 : decode cX8_reachGoal 112 = .ok (.aload_n 0, 1) := by decide +kernel
theorem dX8_reachGoal_113 : decode cX8_reachGoal 113 = .ok (.iconst 5, 1) := by decide +kernel
theorem dX8_reachGoal_114 : decode cX8_reachGoal 114 = .ok (.iconst 1, 1) := by decide +kernel
theorem dX8_reachGoal_115 : decode cX8_reachGoal 115 = .ok (.invokevirtual 15, 3) := by decide +kernel
theorem dX8_reachGoal_118 : decode cX8_reachGoal 118 = .ok (.iload_n 3, 1) := by decide +kernel
theorem dX8_reachGoal_119 : decode cX8_reachGoal 119 = .ok (.ifCond .ne 4, 3) := by decide +kernel
theorem dX8_reachGoal_122 : decode cX8_reachGoal 122 = .ok (.return_, 1) := by decide +kernel
theorem dX8_reachGoal_123 : decode cX8_reachGoal 123 = .ok (.aload_n 0, 1) := by decide +kernel
theorem dX8_reachGoal_124 : decode cX8_reachGoal 124 = .ok (.bipush 6, 2) := by decide +kernel
theorem dX8_reachGoal_126 : decode cX8_reachGoal 126 = .ok (.iconst 1, 1) := by decide +kernel
theorem dX8_reachGoal_127 : decode cX8_reachGoal 127 = .ok (.invokevirtual 15, 3) := by decide +kernel
theorem dX8_reachGoal_130 : decode cX8_reachGoal 130 = .ok (.aload_n 0, 1) := by decide +kernel
theorem dX8_reachGoal_131 : decode cX8_reachGoal 131 = .ok (.getfield 38, 3) := by decide +kernel
theorem dX8_reachGoal_134 : decode cX8_reachGoal 134 = .ok (.iload_n 1, 1) := by decide +kernel
theorem dX8_reachGoal_135 : decode cX8_reachGoal 135 = .ok (.bipush 7, 2) := by decide +kernel
theorem dX8_reachGoal_137 : decode cX8_reachGoal 137 = .ok (.invokevirtual 42, 3) := by decide +kernel
theorem dX8_reachGoal_140 : decode cX8_reachGoal 140 = .ok (.iconst 1, 1) := by decide +kernel
theorem dX8_reachGoal_141 : decode cX8_reachGoal 141 = .ok (.if_icmp .ne 62, 3) := by decide +kernel
theorem dX8_reachGoal_144 : decode cX8_reachGoal 144 = .ok (.aload_n 0, 1) := by decide +kernel
theorem dX8_reachGoal_145 : decode cX8_reachGoal 145 = .ok (.getfield 35, 3) := by decide +kernel
theorem dX8_reachGoal_148 : decode cX8_reachGoal 148 = .ok (.bipush 30, 2) := by decide +kernel
theorem dX8_reachGoal_150 : decode cX8_reachGoal 150 = .ok (.if_icmp .ge 53, 3) := by decide +kernel
theorem dX8_reachGoal_153 : decode cX8_reachGoal 153 = .ok (.aload_n 0, 1) := by decide +kernel
theorem dX8_reachGoal_154 : decode cX8_reachGoal 154 = .ok (.getfield 38, 3) := by decide +kernel
theorem dX8_reachGoal_157 : decode cX8_reachGoal 157 = .ok (.iload_n 1, 1) := by decide +kernel
theorem dX8_reachGoal_158 : decode cX8_reachGoal 158 = .ok (.iconst 2, 1) := by decide +kernel
theorem dX8_reachGoal_159 : decode cX8_reachGoal 159 = .ok (.invokevirtual 42, 3) := by decide +kernel
theorem dX8_reachGoal_162 : decode cX8_reachGoal 162 = .ok (.istore 4, 2) := by decide +kernel
theorem dX8_reachGoal_164 : decode cX8_reachGoal 164 = .ok (.aload_n 0, 1) := by decide +kernel
theorem dX8_reachGoal_165 : decode cX8_reachGoal 165 = .ok (.aload_n 0, 1) := by decide +kernel
theorem dX8_reachGoal_166 : decode cX8_reachGoal 166 = .ok (.getfield 38, 3) := by decide +kernel
theorem dX8_reachGoal_169 : decode cX8_reachGoal 169 = .ok (.iload_n 1, 1) := by decide +kernel
theorem dX8_reachGoal_170 : decode cX8_reachGoal 170 = .ok (.iconst 1, 1) := by decide +kernel
theorem dX8_reachGoal_171 : decode cX8_reachGoal 171 = .ok (.invokevirtual 42, 3) := by decide +kernel
theorem dX8_reachGoal_174 : decode cX8_reachGoal 174 = .ok (.aload_n 0, 1) := by decide +kernel
theorem dX8_reachGoal_175 : decode cX8_reachGoal 175 = .ok (.getfield 38, 3) := by decide +kernel
theorem dX8_reachGoal_178 : decode cX8_reachGoal 178 = .ok (.iload_n 1, 1) := by decide +kernel
theorem dX8_reachGoal_179 : decode cX8_reachGoal 179 = .ok (.iconst 0, 1) := by decide +kernel
theorem dX8_reachGoal_180 : decode cX8_reachGoal 180 = .ok (.invokevirtual 42, 3) := by decide +kernel
theorem dX8_reachGoal_183 : decode cX8_reachGoal 183 = .ok (.iload 4, 2) := by decide +kernel
theorem dX8_reachGoal_185 : decode cX8_reachGoal 185 = .ok (.iload_n 2, 1) := by decide +kernel
theorem dX8_reachGoal_186 : decode cX8_reachGoal 186 = .ok (.iload 4, 2) := by decide +kernel
theorem dX8_reachGoal_188 : decode cX8_reachGoal 188 = .ok (.invokestatic 72, 3) := by decide +kernel
theorem dX8_reachGoal_191 : decode cX8_reachGoal 191 = .ok (.iconst 1, 1) := by decide +kernel
theorem dX8_reachGoal_192 : decode cX8_reachGoal 192 = .ok (.iconst 0, 1) := by decide +kernel
theorem dX8_reachGoal_193 : decode cX8_reachGoal 193 = .ok (.invokevirtual 75, 3) := by decide +kernel
theorem dX8_reachGoal_196 : decode cX8_reachGoal 196 = .ok (.pop, 1) := by decide +kernel
theorem dX8_reachGoal_197 : decode cX8_reachGoal 197 = .ok (.aload_n 0, 1) := by decide +kernel
theorem dX8_reachGoal_198 : decode cX8_reachGoal 198 = .ok (.iconst 2, 1) := by decide +kernel
theorem dX8_reachGoal_199 : decode cX8_reachGoal 199 = .ok (.iconst 1, 1) := by decide +kernel
theorem dX8_reachGoal_200 : decode cX8_reachGoal 200 = .ok (.invokevirtual 15, 3) := by decide +kernel
theorem dX8_reachGoal_203 : decode cX8_reachGoal 203 = .ok (.return_, 1) := by decide +kernel
theorem dX8_turned_0 : decode cX8_turned 0 = .ok (.iconst 0, 1) := by decide +kernel
theorem dX8_turned_1 : decode cX8_turned 1 = .ok (.istore_n 2, 1) := by decide +kernel
theorem dX8_turned_2 : decode cX8_turned 2 = .ok (.iconst 0, 1) := by decide +kernel
theorem dX8_turned_3 : decode cX8_turned 3 = .ok (.istore_n 3, 1) := by decide +kernel
theorem dX8_turned_4 : decode cX8_turned 4 = .ok (.iload_n 3, 1) := by decide +kernel
theorem dX8_turned_5 : decode cX8_turned 5 = .ok (.iload_n 1, 1) := by decide +kernel
theorem dX8_turned_6 : decode cX8_turned 6 = .ok (.if_icmp .ge 19, 3) := by decide +kernel
theorem dX8_turned_9 : decode cX8_turned 9 = .ok (.iload_n 2, 1) := by decide +kernel
theorem dX8_turned_10 : decode cX8_turned 10 = .ok (.iconst 3, 1) := by decide +kernel
theorem dX8_turned_11 : decode cX8_turned 11 = .ok (.ishl, 1) := by decide +kernel
theorem dX8_turned_12 : decode cX8_turned 12 = .ok (.iload_n 0, 1) := by decide +kernel
theorem dX8_turned_13 : decode cX8_turned 13 = .ok (.iload_n 3, 1) := by decide +kernel
theorem dX8_turned_14 : decode cX8_turned 14 = .ok (.invokestatic 66, 3) := by decide +kernel
theorem dX8_turned_17 : decode cX8_turned 17 = .ok (.ior, 1) := by decide +kernel
theorem dX8_turned_18 : decode cX8_turned 18 = .ok (.istore_n 2, 1) := by decide +kernel
theorem dX8_turned_19 : decode cX8_turned 19 = .ok (.iinc 3 1, 3) := by decide +kernel
theorem dX8_turned_22 : decode cX8_turned 22 = .ok (.goto (-18), 3) := by decide +kernel
theorem dX8_turned_25 : decode cX8_turned 25 = .ok (.iload_n 2, 1) := by decide +kernel
theorem dX8_turned_26 : decode cX8_turned 26 = .ok (.ireturn, 1) := by decide +kernel
theorem dX8_whistleAll_0 : decode cX8_whistleAll 0 = .ok (.aload_n 0, 1) := by decide +kernel
theorem dX8_whistleAll_1 : decode cX8_whistleAll 1 = .ok (.invokestatic 79, 3) := by decide +kernel
theorem dX8_whistleAll_4 : decode cX8_whistleAll 4 = .ok (.istore_n 1, 1) := by decide +kernel
theorem dX8_whistleAll_5 : decode cX8_whistleAll 5 = .ok (.iconst 0, 1) := by decide +kernel
theorem dX8_whistleAll_6 : decode cX8_whistleAll 6 = .ok (.istore_n 2, 1) := by decide +kernel
theorem dX8_whistleAll_7 : decode cX8_whistleAll 7 = .ok (.iload_n 2, 1) := by decide +kernel
theorem dX8_whistleAll_8 : decode cX8_whistleAll 8 = .ok (.aload_n 0, 1) := by decide +kernel
theorem dX8_whistleAll_9 : decode cX8_whistleAll 9 = .ok (.getfield 83, 3) := by decide +kernel
theorem dX8_whistleAll_12 : decode cX8_whistleAll 12 = .ok (.if_icmp .ge 47, 3) := by decide +kernel
theorem dX8_whistleAll_15 : decode cX8_whistleAll 15 = .ok (.iload_n 1, 1) := by decide +kernel
theorem dX8_whistleAll_16 : decode cX8_whistleAll 16 = .ok (.iload_n 2, 1) := by decide +kernel
theorem dX8_whistleAll_17 : decode cX8_whistleAll 17 = .ok (.ishr, 1) := by decide +kernel
theorem dX8_whistleAll_18 : decode cX8_whistleAll 18 = .ok (.iconst 1, 1) := by decide +kernel
theorem dX8_whistleAll_19 : decode cX8_whistleAll 19 = .ok (.iand, 1) := by decide +kernel
theorem dX8_whistleAll_20 : decode cX8_whistleAll 20 = .ok (.iconst 1, 1) := by decide +kernel
theorem dX8_whistleAll_21 : decode cX8_whistleAll 21 = .ok (.if_icmp .ne 32, 3) := by decide +kernel
theorem dX8_whistleAll_24 : decode cX8_whistleAll 24 = .ok (.aload_n 0, 1) := by decide +kernel
theorem dX8_whistleAll_25 : decode cX8_whistleAll 25 = .ok (.iload_n 2, 1) := by decide +kernel
theorem dX8_whistleAll_26 : decode cX8_whistleAll 26 = .ok (.aload_n 0, 1) := by decide +kernel
theorem dX8_whistleAll_27 : decode cX8_whistleAll 27 = .ok (.getfield 9, 3) := by decide +kernel
theorem dX8_whistleAll_30 : decode cX8_whistleAll 30 = .ok (.invokevirtual 86, 3) := by decide +kernel
theorem dX8_whistleAll_33 : decode cX8_whistleAll 33 = .ok (.ifCond .ne 20, 3) := by decide +kernel
theorem dX8_whistleAll_36 : decode cX8_whistleAll 36 = .ok (.aload_n 0, 1) := by decide +kernel
theorem dX8_whistleAll_37 : decode cX8_whistleAll 37 = .ok (.iload_n 2, 1) := by decide +kernel
theorem dX8_whistleAll_38 : decode cX8_whistleAll 38 = .ok (.invokevirtual 90, 3) := by decide +kernel
theorem dX8_whistleAll_41 : decode cX8_whistleAll 41 = .ok (.istore_n 3, 1) := by decide +kernel
theorem dX8_whistleAll_42 : decode cX8_whistleAll 42 = .ok (.iload_n 3, 1) := by decide +kernel
theorem dX8_whistleAll_43 : decode cX8_whistleAll 43 = .ok (.iconst (-1), 1) := by decide +kernel
theorem dX8_whistleAll_44 : decode cX8_whistleAll 44 = .ok (.if_icmp .eq 9, 3) := by decide +kernel
