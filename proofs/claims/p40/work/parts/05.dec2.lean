theorem dX10_loadPost_39 : decode cX10_loadPost 39 = .ok (.aload_n 0, 1) := by decide +kernel
theorem dX10_loadPost_40 : decode cX10_loadPost 40 = .ok (.iconst 0, 1) := by decide +kernel
theorem dX10_loadPost_41 : decode cX10_loadPost 41 = .ok (.putfield 66, 3) := by decide +kernel
theorem dX10_loadPost_44 : decode cX10_loadPost 44 = .ok (.aload_n 0, 1) := by decide +kernel
theorem dX10_loadPost_45 : decode cX10_loadPost 45 = .ok (.getfield 24, 3) := by decide +kernel
theorem dX10_loadPost_48 : decode cX10_loadPost 48 = .ok (.getfield 104, 3) := by decide +kernel
theorem dX10_loadPost_51 : decode cX10_loadPost 51 = .ok (.ireturn, 1) := by decide +kernel
theorem dX10_count_0 : decode cX10_count 0 = .ok (.aload_n 0, 1) := by decide +kernel
theorem dX10_count_1 : decode cX10_count 1 = .ok (.iload_n 1, 1) := by decide +kernel
theorem dX10_count_2 : decode cX10_count 2 = .ok (.iconst 0, 1) := by decide +kernel
theorem dX10_count_3 : decode cX10_count 3 = .ok (.bipush 13, 2) := by decide +kernel
theorem dX10_count_5 : decode cX10_count 5 = .ok (.invokevirtual 168, 3) := by decide +kernel
theorem dX10_count_8 : decode cX10_count 8 = .ok (.iload_n 1, 1) := by decide +kernel
theorem dX10_count_9 : decode cX10_count 9 = .ok (.bipush 13, 2) := by decide +kernel
theorem dX10_count_11 : decode cX10_count 11 = .ok (.if_icmp .ne 13, 3) := by decide +kernel
theorem dX10_count_14 : decode cX10_count 14 = .ok (.aload_n 0, 1) := by decide +kernel
theorem dX10_count_15 : decode cX10_count 15 = .ok (.getfield 37, 3) := by decide +kernel
theorem dX10_count_18 : decode cX10_count 18 = .ok (.invokevirtual 172, 3) := by decide +kernel
theorem dX10_count_21 : decode cX10_count 21 = .ok (.goto 11, 3) := by decide +kernel
theorem dX10_count_24 : decode cX10_count 24 = .ok (.aload_n 0, 1) := by decide +kernel
theorem dX10_count_25 : decode cX10_count 25 = .ok (.getfield 24, 3) := by decide +kernel
theorem dX10_count_28 : decode cX10_count 28 = .ok (.iload_n 1, 1) := by decide +kernel
theorem dX10_count_29 : decode cX10_count 29 = .ok (.invokevirtual 173, 3) := by decide +kernel
theorem dX10_count_32 : decode cX10_count 32 = .ok (.ireturn, 1) := by decide +kernel
theorem dX10_account_0 : decode cX10_account 0 = .ok (.aload_n 0, 1) := by decide +kernel
theorem dX10_account_1 : decode cX10_account 1 = .ok (.iload_n 1, 1) := by decide +kernel
theorem dX10_account_2 : decode cX10_account 2 = .ok (.iconst 0, 1) := by decide +kernel
theorem dX10_account_3 : decode cX10_account 3 = .ok (.bipush 10, 2) := by decide +kernel
theorem dX10_account_5 : decode cX10_account 5 = .ok (.invokevirtual 168, 3) := by decide +kernel
theorem dX10_account_8 : decode cX10_account 8 = .ok (.aload_n 0, 1) := by decide +kernel
theorem dX10_account_9 : decode cX10_account 9 = .ok (.getfield 24, 3) := by decide +kernel
theorem dX10_account_12 : decode cX10_account 12 = .ok (.getfield 177, 3) := by decide +kernel
theorem dX10_account_15 : decode cX10_account 15 = .ok (.iconst 0, 1) := by decide +kernel
theorem dX10_account_16 : decode cX10_account 16 = .ok (.iload_n 1, 1) := by decide +kernel
theorem dX10_account_17 : decode cX10_account 17 = .ok (.invokevirtual 122, 3) := by decide +kernel
theorem dX10_account_20 : decode cX10_account 20 = .ok (.ireturn, 1) := by decide +kernel
theorem dX10_roof_0 : decode cX10_roof 0 = .ok (.aload_n 0, 1) := by decide +kernel
theorem dX10_roof_1 : decode cX10_roof 1 = .ok (.iload_n 1, 1) := by decide +kernel
theorem dX10_roof_2 : decode cX10_roof 2 = .ok (.invokevirtual 180, 3) := by decide +kernel
theorem dX10_roof_5 : decode cX10_roof 5 = .ok (.aload_n 0, 1) := by decide +kernel
theorem dX10_roof_6 : decode cX10_roof 6 = .ok (.iload_n 2, 1) := by decide +kernel
theorem dX10_roof_7 : decode cX10_roof 7 = .ok (.iconst 0, 1) := by decide +kernel
theorem dX10_roof_8 : decode cX10_roof 8 = .ok (.bipush 7, 2) := by decide +kernel
theorem dX10_roof_10 : decode cX10_roof 10 = .ok (.invokevirtual 168, 3) := by decide +kernel
theorem dX10_roof_13 : decode cX10_roof 13 = .ok (.aload_n 0, 1) := by decide +kernel
theorem dX10_roof_14 : decode cX10_roof 14 = .ok (.getfield 24, 3) := by decide +kernel
theorem dX10_roof_17 : decode cX10_roof 17 = .ok (.iload_n 1, 1) := by decide +kernel
theorem dX10_roof_18 : decode cX10_roof 18 = .ok (.iload_n 2, 1) := by decide +kernel
theorem dX10_roof_19 : decode cX10_roof 19 = .ok (.invokevirtual 186, 3) := by decide +kernel
theorem dX10_roof_22 : decode cX10_roof 22 = .ok (.ireturn, 1) := by decide +kernel
theorem dX10_route_0 : decode cX10_route 0 = .ok (.aload_n 0, 1) := by decide +kernel
theorem dX10_route_1 : decode cX10_route 1 = .ok (.iload_n 1, 1) := by decide +kernel
theorem dX10_route_2 : decode cX10_route 2 = .ok (.invokevirtual 180, 3) := by decide +kernel
theorem dX10_route_5 : decode cX10_route 5 = .ok (.aload_n 0, 1) := by decide +kernel
theorem dX10_route_6 : decode cX10_route 6 = .ok (.iload_n 2, 1) := by decide +kernel
theorem dX10_route_7 : decode cX10_route 7 = .ok (.invokevirtual 180, 3) := by decide +kernel
theorem dX10_route_10 : decode cX10_route 10 = .ok (.aload_n 0, 1) := by decide +kernel
theorem dX10_route_11 : decode cX10_route 11 = .ok (.getfield 24, 3) := by decide +kernel
theorem dX10_route_14 : decode cX10_route 14 = .ok (.getfield 198, 3) := by decide +kernel
theorem dX10_route_17 : decode cX10_route 17 = .ok (.getfield 202, 3) := by decide +kernel
theorem dX10_route_20 : decode cX10_route 20 = .ok (.iload_n 1, 1) := by decide +kernel
theorem dX10_route_21 : decode cX10_route 21 = .ok (.iload_n 2, 1) := by decide +kernel
theorem dX10_route_22 : decode cX10_route 22 = .ok (.invokevirtual 122, 3) := by decide +kernel
theorem dX10_route_25 : decode cX10_route 25 = .ok (.istore_n 3, 1) := by decide +kernel
theorem dX10_route_26 : decode cX10_route 26 = .ok (.iload_n 3, 1) := by decide +kernel
theorem dX10_route_27 : decode cX10_route 27 = .ok (.sipush 9999, 3) := by decide +kernel
theorem dX10_route_30 : decode cX10_route 30 = .ok (.if_icmp .ge 7, 3) := by decide +kernel
theorem dX10_route_33 : decode cX10_route 33 = .ok (.iload_n 3, 1) := by decide +kernel
theorem dX10_route_34 : decode cX10_route 34 = .ok (.goto 4, 3) := by decide +kernel
theorem dX10_route_37 : decode cX10_route 37 = .ok (.iconst (-1), 1) := by decide +kernel
theorem dX10_route_38 : decode cX10_route 38 = .ok (.ireturn, 1) := by decide +kernel
theorem dX10_next_0 : decode cX10_next 0 = .ok (.aload_n 0, 1) := by decide +kernel
theorem dX10_next_1 : decode cX10_next 1 = .ok (.iload_n 1, 1) := by decide +kernel
theorem dX10_next_2 : decode cX10_next 2 = .ok (.invokevirtual 180, 3) := by decide +kernel
theorem dX10_next_5 : decode cX10_next 5 = .ok (.aload_n 0, 1) := by decide +kernel
theorem dX10_next_6 : decode cX10_next 6 = .ok (.iload_n 2, 1) := by decide +kernel
theorem dX10_next_7 : decode cX10_next 7 = .ok (.invokevirtual 180, 3) := by decide +kernel
theorem dX10_next_10 : decode cX10_next 10 = .ok (.aload_n 0, 1) := by decide +kernel
theorem dX10_next_11 : decode cX10_next 11 = .ok (.getfield 24, 3) := by decide +kernel
theorem dX10_next_14 : decode cX10_next 14 = .ok (.getfield 198, 3) := by decide +kernel
theorem dX10_next_17 : decode cX10_next 17 = .ok (.getfield 207, 3) := by decide +kernel
theorem dX10_next_20 : decode cX10_next 20 = .ok (.iload_n 1, 1) := by decide +kernel
theorem dX10_next_21 : decode cX10_next 21 = .ok (.iload_n 2, 1) := by decide +kernel
theorem dX10_next_22 : decode cX10_next 22 = .ok (.invokevirtual 122, 3) := by decide +kernel
theorem dX10_next_25 : decode cX10_next 25 = .ok (.ireturn, 1) := by decide +kernel
theorem dX10_tune_0 : decode cX10_tune 0 = .ok (.aload_n 0, 1) := by decide +kernel
theorem dX10_tune_1 : decode cX10_tune 1 = .ok (.iload_n 1, 1) := by decide +kernel
theorem dX10_tune_2 : decode cX10_tune 2 = .ok (.invokevirtual 210, 3) := by decide +kernel
theorem dX10_tune_5 : decode cX10_tune 5 = .ok (.aload_n 0, 1) := by decide +kernel
theorem dX10_tune_6 : decode cX10_tune 6 = .ok (.iload_n 2, 1) := by decide +kernel
theorem dX10_tune_7 : decode cX10_tune 7 = .ok (.iconst 0, 1) := by decide +kernel
theorem dX10_tune_8 : decode cX10_tune 8 = .ok (.bipush 11, 2) := by decide +kernel
theorem dX10_tune_10 : decode cX10_tune 10 = .ok (.invokevirtual 168, 3) := by decide +kernel
theorem dX10_tune_13 : decode cX10_tune 13 = .ok (.aload_n 0, 1) := by decide +kernel
theorem dX10_tune_14 : decode cX10_tune 14 = .ok (.getfield 24, 3) := by decide +kernel
theorem dX10_tune_17 : decode cX10_tune 17 = .ok (.iload_n 1, 1) := by decide +kernel
theorem dX10_tune_18 : decode cX10_tune 18 = .ok (.iload_n 2, 1) := by decide +kernel
theorem dX10_tune_19 : decode cX10_tune 19 = .ok (.invokevirtual 213, 3) := by decide +kernel
theorem dX10_tune_22 : decode cX10_tune 22 = .ok (.ireturn, 1) := by decide +kernel
theorem dX10_note_0 : decode cX10_note 0 = .ok (.aload_n 0, 1) := by decide +kernel
theorem dX10_note_1 : decode cX10_note 1 = .ok (.iload_n 1, 1) := by decide +kernel
theorem dX10_note_2 : decode cX10_note 2 = .ok (.invokevirtual 210, 3) := by decide +kernel
theorem dX10_note_5 : decode cX10_note 5 = .ok (.iload_n 2, 1) := by decide +kernel
theorem dX10_note_6 : decode cX10_note 6 = .ok (.ifCond .lt 19, 3) := by decide +kernel
theorem dX10_note_9 : decode cX10_note 9 = .ok (.iload_n 2, 1) := by decide +kernel
theorem dX10_note_10 : decode cX10_note 10 = .ok (.aload_n 0, 1) := by decide +kernel
theorem dX10_note_11 : decode cX10_note 11 = .ok (.getfield 24, 3) := by decide +kernel
theorem dX10_note_14 : decode cX10_note 14 = .ok (.getfield 216, 3) := by decide +kernel
theorem dX10_note_17 : decode cX10_note 17 = .ok (.iload_n 1, 1) := by decide +kernel
theorem dX10_note_18 : decode cX10_note 18 = .ok (.iconst 2, 1) := by decide +kernel
theorem dX10_note_19 : decode cX10_note 19 = .ok (.invokevirtual 122, 3) := by decide +kernel
theorem dX10_note_22 : decode cX10_note 22 = .ok (.if_icmp .lt 5, 3) := by decide +kernel
theorem dX10_note_25 : decode cX10_note 25 = .ok (.iconst (-1), 1) := by decide +kernel
theorem dX10_note_26 : decode cX10_note 26 = .ok (.ireturn, 1) := by decide +kernel
theorem dX10_note_27 : decode cX10_note 27 = .ok (.aload_n 0, 1) := by decide +kernel
theorem dX10_note_28 : decode cX10_note 28 = .ok (.getfield 24, 3) := by decide +kernel
theorem dX10_note_31 : decode cX10_note 31 = .ok (.getfield 216, 3) := by decide +kernel
theorem dX10_note_34 : decode cX10_note 34 = .ok (.iload_n 1, 1) := by decide +kernel
theorem dX10_note_35 : decode cX10_note 35 = .ok (.iload_n 3, 1) := by decide +kernel
theorem dX10_note_36 : decode cX10_note 36 = .ok (.ifCond .eq 8, 3) := by decide +kernel
theorem dX10_note_39 : decode cX10_note 39 = .ok (.bipush 10, 2) := by decide +kernel
theorem dX10_note_41 : decode cX10_note 41 = .ok (.goto 5, 3) := by decide +kernel
theorem dX10_note_44 : decode cX10_note 44 = .ok (.bipush 9, 2) := by decide +kernel
theorem dX10_note_46 : decode cX10_note 46 = .ok (.invokevirtual 122, 3) := by decide +kernel
theorem dX10_note_49 : decode cX10_note 49 = .ok (.iload_n 2, 1) := by decide +kernel
theorem dX10_note_50 : decode cX10_note 50 = .ok (.invokestatic 219, 3) := by decide +kernel
theorem dX10_note_53 : decode cX10_note 53 = .ok (.ireturn, 1) := by decide +kernel
theorem dX10_agree_0 : decode cX10_agree 0 = .ok (.aload_n 0, 1) := by decide +kernel
theorem dX10_agree_1 : decode cX10_agree 1 = .ok (.getfield 31, 3) := by decide +kernel
theorem dX10_agree_4 : decode cX10_agree 4 = .ok (.getfield 198, 3) := by decide +kernel
theorem dX10_agree_7 : decode cX10_agree 7 = .ok (.aload_n 0, 1) := by decide +kernel
theorem dX10_agree_8 : decode cX10_agree 8 = .ok (.getfield 24, 3) := by decide +kernel
theorem dX10_agree_11 : decode cX10_agree 11 = .ok (.invokevirtual 246, 3) := by decide +kernel
theorem dX10_agree_14 : decode cX10_agree 14 = .ok (.aload_n 0, 1) := by decide +kernel
theorem dX10_agree_15 : decode cX10_agree 15 = .ok (.getfield 24, 3) := by decide +kernel
theorem dX10_agree_18 : decode cX10_agree 18 = .ok (.getfield 198, 3) := by decide +kernel
theorem dX10_agree_21 : decode cX10_agree 21 = .ok (.aload_n 0, 1) := by decide +kernel
theorem dX10_agree_22 : decode cX10_agree 22 = .ok (.getfield 31, 3) := by decide +kernel
theorem dX10_agree_25 : decode cX10_agree 25 = .ok (.getfield 198, 3) := by decide +kernel
theorem dX10_agree_28 : decode cX10_agree 28 = .ok (.aload_n 0, 1) := by decide +kernel
theorem dX10_agree_29 : decode cX10_agree 29 = .ok (.getfield 24, 3) := by decide +kernel
theorem dX10_agree_32 : decode cX10_agree 32 = .ok (.getfield 249, 3) := by decide +kernel
theorem dX10_agree_35 : decode cX10_agree 35 = .ok (.invokevirtual 252, 3) := by decide +kernel
theorem dX10_agree_38 : decode cX10_agree 38 = .ok (.ifCond .eq 27, 3) := by decide +kernel
theorem dX10_agree_41 : decode cX10_agree 41 = .ok (.aload_n 0, 1) := by decide +kernel
theorem dX10_agree_42 : decode cX10_agree 42 = .ok (.getfield 24, 3) := by decide +kernel
theorem dX10_agree_45 : decode cX10_agree 45 = .ok (.invokestatic 256, 3) := by decide +kernel
theorem dX10_agree_48 : decode cX10_agree 48 = .ok (.ifCond .eq 17, 3) := by decide +kernel
theorem dX10_agree_51 : decode cX10_agree 51 = .ok (.aload_n 0, 1) := by decide +kernel
theorem dX10_agree_52 : decode cX10_agree 52 = .ok (.getfield 24, 3) := by decide +kernel
theorem dX10_agree_55 : decode cX10_agree 55 = .ok (.invokestatic 260, 3) := by decide +kernel
theorem dX10_agree_58 : decode cX10_agree 58 = .ok (.ifCond .eq 7, 3) := by decide +kernel
theorem dX10_agree_61 : decode cX10_agree 61 = .ok (.iconst 1, 1) := by decide +kernel
theorem dX10_agree_62 : decode cX10_agree 62 = .ok (.goto 4, 3) := by decide +kernel
theorem dX10_agree_65 : decode cX10_agree 65 = .ok (.iconst 0, 1) := by decide +kernel
theorem dX10_agree_66 : decode cX10_agree 66 = .ok (.ireturn, 1) := by decide +kernel
theorem dX10_send_0 : decode cX10_send 0 = .ok (.aload_n 0, 1) := by decide +kernel
theorem dX10_send_1 : decode cX10_send 1 = .ok (.iload_n 1, 1) := by decide +kernel
theorem dX10_send_2 : decode cX10_send 2 = .ok (.invokevirtual 180, 3) := by decide +kernel
theorem dX10_send_5 : decode cX10_send 5 = .ok (.aload_n 0, 1) := by decide +kernel
theorem dX10_send_6 : decode cX10_send 6 = .ok (.iload_n 2, 1) := by decide +kernel
theorem dX10_send_7 : decode cX10_send 7 = .ok (.invokevirtual 180, 3) := by decide +kernel
theorem dX10_send_10 : decode cX10_send 10 = .ok (.iload_n 1, 1) := by decide +kernel
theorem dX10_send_11 : decode cX10_send 11 = .ok (.iload_n 2, 1) := by decide +kernel
theorem dX10_send_12 : decode cX10_send 12 = .ok (.if_icmp .ne 14, 3) := by decide +kernel
theorem dX10_send_15 : decode cX10_send 15 = .ok (.new 266, 3) := by decide +kernel
theorem dX10_send_18 : decode cX10_send 18 = .ok (.dup, 1) := by decide +kernel
theorem dX10_send_19 : decode cX10_send 19 = .ok (.ldc_w 268, 3) := by decide +kernel
theorem dX10_send_22 : decode cX10_send 22 = .ok (.invokespecial 270, 3) := by decide +kernel
theorem dX10_send_25 : decode cX10_send 25 = .ok (.athrow, 1) := by decide +kernel
theorem dX10_send_26 : decode cX10_send 26 = .ok (.aload_n 0, 1) := by decide +kernel
theorem dX10_send_27 : decode cX10_send 27 = .ok (.iload_n 3, 1) := by decide +kernel
theorem dX10_send_28 : decode cX10_send 28 = .ok (.iconst 0, 1) := by decide +kernel
theorem dX10_send_29 : decode cX10_send 29 = .ok (.ldc_w 271, 3) := by decide +kernel
theorem dX10_send_32 : decode cX10_send 32 = .ok (.invokevirtual 168, 3) := by decide +kernel
theorem dX10_send_35 : decode cX10_send 35 = .ok (.iload_n 3, 1) := by decide +kernel
theorem dX10_send_36 : decode cX10_send 36 = .ok (.invokestatic 272, 3) := by decide +kernel
theorem dX10_send_39 : decode cX10_send 39 = .ok (.ifCond .ne 14, 3) := by decide +kernel
theorem dX10_send_42 : decode cX10_send 42 = .ok (.new 266, 3) := by decide +kernel
theorem dX10_send_45 : decode cX10_send 45 = .ok (.dup, 1) := by decide +kernel
theorem dX10_send_46 : decode cX10_send 46 = .ok (.ldc_w 275, 3) := by decide +kernel
theorem dX10_send_49 : decode cX10_send 49 = .ok (.invokespecial 270, 3) := by decide +kernel
theorem dX10_send_52 : decode cX10_send 52 = .ok (.athrow, 1) := by decide +kernel
theorem dX10_send_53 : decode cX10_send 53 = .ok (.aload_n 0, 1) := by decide +kernel
theorem dX10_send_54 : decode cX10_send 54 = .ok (.getfield 24, 3) := by decide +kernel
theorem dX10_send_57 : decode cX10_send 57 = .ok (.getfield 155, 3) := by decide +kernel
theorem dX10_send_60 : decode cX10_send 60 = .ok (.bipush 30, 2) := by decide +kernel
theorem dX10_send_62 : decode cX10_send 62 = .ok (.if_icmp .lt 14, 3) := by decide +kernel
theorem dX10_send_65 : decode cX10_send 65 = .ok (.new 277, 3) := by decide +kernel
theorem dX10_send_68 : decode cX10_send 68 = .ok (.dup, 1) := by decide +kernel
theorem dX10_send_69 : decode cX10_send 69 = .ok (.ldc_w 279, 3) := by decide +kernel
theorem dX10_send_72 : decode cX10_send 72 = .ok (.invokespecial 281, 3) := by decide +kernel
theorem dX10_send_75 : decode cX10_send 75 = .ok (.athrow, 1) := by decide +kernel
theorem dX10_send_76 : decode cX10_send 76 = .ok (.aload_n 0, 1) := by decide +kernel
theorem dX10_send_77 : decode cX10_send 77 = .ok (.getfield 37, 3) := by decide +kernel
theorem dX10_send_80 : decode cX10_send 80 = .ok (.aload_n 0, 1) := by decide +kernel
theorem dX10_send_81 : decode cX10_send 81 = .ok (.getfield 24, 3) := by decide +kernel
theorem dX10_send_84 : decode cX10_send 84 = .ok (.invokevirtual 109, 3) := by decide +kernel
theorem dX10_send_87 : decode cX10_send 87 = .ok (.aload_n 0, 1) := by decide +kernel
theorem dX10_send_88 : decode cX10_send 88 = .ok (.getfield 24, 3) := by decide +kernel
theorem dX10_send_91 : decode cX10_send 91 = .ok (.iload_n 1, 1) := by decide +kernel
theorem dX10_send_92 : decode cX10_send 92 = .ok (.iload_n 2, 1) := by decide +kernel
theorem dX10_send_93 : decode cX10_send 93 = .ok (.iload_n 3, 1) := by decide +kernel
theorem dX10_send_94 : decode cX10_send 94 = .ok (.invokestatic 282, 3) := by decide +kernel
theorem dX10_send_97 : decode cX10_send 97 = .ok (.iload_n 3, 1) := by decide +kernel
theorem dX10_send_98 : decode cX10_send 98 = .ok (.invokestatic 285, 3) := by decide +kernel
theorem dX10_send_101 : decode cX10_send 101 = .ok (.iconst 0, 1) := by decide +kernel
theorem dX10_send_102 : decode cX10_send 102 = .ok (.iload 4, 2) := by decide +kernel
theorem dX10_send_104 : decode cX10_send 104 = .ok (.invokevirtual 158, 3) := by decide +kernel
theorem dX10_send_107 : decode cX10_send 107 = .ok (.ireturn, 1) := by decide +kernel
theorem dX10_areDigitsNotes_0 : decode cX10_areDigitsNotes 0 = .ok (.iload_n 0, 1) := by decide +kernel
theorem dX10_areDigitsNotes_1 : decode cX10_areDigitsNotes 1 = .ok (.istore_n 1, 1) := by decide +kernel
theorem dX10_areDigitsNotes_2 : decode cX10_areDigitsNotes 2 = .ok (.iload_n 1, 1) := by decide +kernel
theorem dX10_areDigitsNotes_3 : decode cX10_areDigitsNotes 3 = .ok (.ifCond .le 22, 3) := by decide +kernel
theorem dX10_areDigitsNotes_6 : decode cX10_areDigitsNotes 6 = .ok (.iload_n 1, 1) := by decide +kernel
theorem dX10_areDigitsNotes_7 : decode cX10_areDigitsNotes 7 = .ok (.bipush 10, 2) := by decide +kernel
theorem dX10_areDigitsNotes_9 : decode cX10_areDigitsNotes 9 = .ok (.irem, 1) := by decide +kernel
theorem dX10_areDigitsNotes_10 : decode cX10_areDigitsNotes 10 = .ok (.bipush 7, 2) := by decide +kernel
theorem dX10_areDigitsNotes_12 : decode cX10_areDigitsNotes 12 = .ok (.if_icmp .le 5, 3) := by decide +kernel
theorem dX10_areDigitsNotes_15 : decode cX10_areDigitsNotes 15 = .ok (.iconst 0, 1) := by decide +kernel
theorem dX10_areDigitsNotes_16 : decode cX10_areDigitsNotes 16 = .ok (.ireturn, 1) := by decide +kernel
theorem dX10_areDigitsNotes_17 : decode cX10_areDigitsNotes 17 = .ok (.iload_n 1, 1) := by decide +kernel
theorem dX10_areDigitsNotes_18 : decode cX10_areDigitsNotes 18 = .ok (.bipush 10, 2) := by decide +kernel
theorem dX10_areDigitsNotes_20 : decode cX10_areDigitsNotes 20 = .ok (.idiv, 1) := by decide +kernel
theorem dX10_areDigitsNotes_21 : decode cX10_areDigitsNotes 21 = .ok (.istore_n 1, 1) := by decide +kernel
theorem dX10_areDigitsNotes_22 : decode cX10_areDigitsNotes 22 = .ok (.goto (-20), 3) := by decide +kernel
theorem dX10_areDigitsNotes_25 : decode cX10_areDigitsNotes 25 = .ok (.iconst 1, 1) := by decide +kernel
theorem dX10_areDigitsNotes_26 : decode cX10_areDigitsNotes 26 = .ok (.ireturn, 1) := by decide +kernel
theorem dX10_digitsOf_0 : decode cX10_digitsOf 0 = .ok (.iconst 1, 1) := by decide +kernel
theorem dX10_digitsOf_1 : decode cX10_digitsOf 1 = .ok (.istore_n 1, 1) := by decide +kernel
theorem dX10_digitsOf_2 : decode cX10_digitsOf 2 = .ok (.iload_n 0, 1) := by decide +kernel
theorem dX10_digitsOf_3 : decode cX10_digitsOf 3 = .ok (.bipush 10, 2) := by decide +kernel
theorem dX10_digitsOf_5 : decode cX10_digitsOf 5 = .ok (.idiv, 1) := by decide +kernel
theorem dX10_digitsOf_6 : decode cX10_digitsOf 6 = .ok (.istore_n 2, 1) := by decide +kernel
theorem dX10_digitsOf_7 : decode cX10_digitsOf 7 = .ok (.iload_n 2, 1) := by decide +kernel
theorem dX10_digitsOf_8 : decode cX10_digitsOf 8 = .ok (.ifCond .le 14, 3) := by decide +kernel
theorem dX10_digitsOf_11 : decode cX10_digitsOf 11 = .ok (.iinc 1 1, 3) := by decide +kernel
theorem dX10_digitsOf_14 : decode cX10_digitsOf 14 = .ok (.iload_n 2, 1) := by decide +kernel
theorem dX10_digitsOf_15 : decode cX10_digitsOf 15 = .ok (.bipush 10, 2) := by decide +kernel
theorem dX10_digitsOf_17 : decode cX10_digitsOf 17 = .ok (.idiv, 1) := by decide +kernel
theorem dX10_digitsOf_18 : decode cX10_digitsOf 18 = .ok (.istore_n 2, 1) := by decide +kernel
theorem dX10_digitsOf_19 : decode cX10_digitsOf 19 = .ok (.goto (-12), 3) := by decide +kernel
theorem dX10_digitsOf_22 : decode cX10_digitsOf 22 = .ok (.iload_n 1, 1) := by decide +kernel
theorem dX10_digitsOf_23 : decode cX10_digitsOf 23 = .ok (.ireturn, 1) := by decide +kernel
theorem dX10_notesOfDigits_0 : decode cX10_notesOfDigits 0 = .ok (.iconst 0, 1) := by decide +kernel
theorem dX10_notesOfDigits_1 : decode cX10_notesOfDigits 1 = .ok (.istore_n 1, 1) := by decide +kernel
theorem dX10_notesOfDigits_2 : decode cX10_notesOfDigits 2 = .ok (.iload_n 0, 1) := by decide +kernel
theorem dX10_notesOfDigits_3 : decode cX10_notesOfDigits 3 = .ok (.istore_n 2, 1) := by decide +kernel
theorem dX10_notesOfDigits_4 : decode cX10_notesOfDigits 4 = .ok (.iload_n 2, 1) := by decide +kernel
theorem dX10_notesOfDigits_5 : decode cX10_notesOfDigits 5 = .ok (.ifCond .le 20, 3) := by decide +kernel
theorem dX10_notesOfDigits_8 : decode cX10_notesOfDigits 8 = .ok (.iload_n 1, 1) := by decide +kernel
theorem dX10_notesOfDigits_9 : decode cX10_notesOfDigits 9 = .ok (.iconst 3, 1) := by decide +kernel
theorem dX10_notesOfDigits_10 : decode cX10_notesOfDigits 10 = .ok (.ishl, 1) := by decide +kernel
theorem dX10_notesOfDigits_11 : decode cX10_notesOfDigits 11 = .ok (.iload_n 2, 1) := by decide +kernel
theorem dX10_notesOfDigits_12 : decode cX10_notesOfDigits 12 = .ok (.bipush 10, 2) := by decide +kernel
theorem dX10_notesOfDigits_14 : decode cX10_notesOfDigits 14 = .ok (.irem, 1) := by decide +kernel
theorem dX10_notesOfDigits_15 : decode cX10_notesOfDigits 15 = .ok (.ior, 1) := by decide +kernel
theorem dX10_notesOfDigits_16 : decode cX10_notesOfDigits 16 = .ok (.istore_n 1, 1) := by decide +kernel
theorem dX10_notesOfDigits_17 : decode cX10_notesOfDigits 17 = .ok (.iload_n 2, 1) := by decide +kernel
theorem dX10_notesOfDigits_18 : decode cX10_notesOfDigits 18 = .ok (.bipush 10, 2) := by decide +kernel
theorem dX10_notesOfDigits_20 : decode cX10_notesOfDigits 20 = .ok (.idiv, 1) := by decide +kernel
theorem dX10_notesOfDigits_21 : decode cX10_notesOfDigits 21 = .ok (.istore_n 2, 1) := by decide +kernel
theorem dX10_notesOfDigits_22 : decode cX10_notesOfDigits 22 = .ok (.goto (-18), 3) := by decide +kernel
theorem dX10_notesOfDigits_25 : decode cX10_notesOfDigits 25 = .ok (.iload_n 1, 1) := by decide +kernel
theorem dX10_notesOfDigits_26 : decode cX10_notesOfDigits 26 = .ok (.ireturn, 1) := by decide +kernel
theorem dX10_noteOf_0 : decode cX10_noteOf 0 = .ok (.iload_n 0, 1) := by decide +kernel
theorem dX10_noteOf_1 : decode cX10_noteOf 1 = .ok (.iconst 3, 1) := by decide +kernel
theorem dX10_noteOf_2 : decode cX10_noteOf 2 = .ok (.iload_n 1, 1) := by decide +kernel
theorem dX10_noteOf_3 : decode cX10_noteOf 3 = .ok (.imul, 1) := by decide +kernel
theorem dX10_noteOf_4 : decode cX10_noteOf 4 = .ok (.ishr, 1) := by decide +kernel
theorem dX10_noteOf_5 : decode cX10_noteOf 5 = .ok (.bipush 7, 2) := by decide +kernel
theorem dX10_noteOf_7 : decode cX10_noteOf 7 = .ok (.iand, 1) := by decide +kernel
theorem dX10_noteOf_8 : decode cX10_noteOf 8 = .ok (.ireturn, 1) := by decide +kernel
theorem dX10_tick_0 : decode cX10_tick 0 = .ok (.aload_n 0, 1) := by decide +kernel
theorem dX10_tick_1 : decode cX10_tick 1 = .ok (.iload_n 1, 1) := by decide +kernel
theorem dX10_tick_2 : decode cX10_tick 2 = .ok (.iconst 1, 1) := by decide +kernel
theorem dX10_tick_3 : decode cX10_tick 3 = .ok (.sipush 200, 3) := by decide +kernel
theorem dX10_tick_6 : decode cX10_tick 6 = .ok (.invokevirtual 168, 3) := by decide +kernel
theorem dX10_tick_9 : decode cX10_tick 9 = .ok (.aload_n 0, 1) := by decide +kernel
theorem dX10_tick_10 : decode cX10_tick 10 = .ok (.getfield 24, 3) := by decide +kernel
theorem dX10_tick_13 : decode cX10_tick 13 = .ok (.iload_n 1, 1) := by decide +kernel
theorem dX10_tick_14 : decode cX10_tick 14 = .ok (.invokevirtual 132, 3) := by decide +kernel
theorem dX10_tick_17 : decode cX10_tick 17 = .ok (.ifCond .ne 14, 3) := by decide +kernel
theorem dX10_tick_20 : decode cX10_tick 20 = .ok (.new 277, 3) := by decide +kernel
theorem dX10_tick_23 : decode cX10_tick 23 = .ok (.dup, 1) := by decide +kernel
theorem dX10_tick_24 : decode cX10_tick 24 = .ok (.ldc_w 288, 3) := by decide +kernel
theorem dX10_tick_27 : decode cX10_tick 27 = .ok (.invokespecial 281, 3) := by decide +kernel
theorem dX10_tick_30 : decode cX10_tick 30 = .ok (.athrow, 1) := by decide +kernel
theorem dX10_tick_31 : decode cX10_tick 31 = .ok (.aload_n 0, 1) := by decide +kernel
theorem dX10_tick_32 : decode cX10_tick 32 = .ok (.getfield 37, 3) := by decide +kernel
theorem dX10_tick_35 : decode cX10_tick 35 = .ok (.aload_n 0, 1) := by decide +kernel
theorem dX10_tick_36 : decode cX10_tick 36 = .ok (.getfield 24, 3) := by decide +kernel
theorem dX10_tick_39 : decode cX10_tick 39 = .ok (.invokevirtual 109, 3) := by decide +kernel
theorem dX10_tick_42 : decode cX10_tick 42 = .ok (.aload_n 0, 1) := by decide +kernel
theorem dX10_tick_43 : decode cX10_tick 43 = .ok (.getfield 24, 3) := by decide +kernel
theorem dX10_tick_46 : decode cX10_tick 46 = .ok (.getfield 177, 3) := by decide +kernel
theorem dX10_tick_49 : decode cX10_tick 49 = .ok (.iconst 0, 1) := by decide +kernel
theorem dX10_tick_50 : decode cX10_tick 50 = .ok (.iconst 5, 1) := by decide +kernel
theorem dX10_tick_51 : decode cX10_tick 51 = .ok (.invokevirtual 122, 3) := by decide +kernel
theorem dX10_tick_54 : decode cX10_tick 54 = .ok (.istore_n 2, 1) := by decide +kernel
theorem dX10_tick_55 : decode cX10_tick 55 = .ok (.aload_n 0, 1) := by decide +kernel
theorem dX10_tick_56 : decode cX10_tick 56 = .ok (.getfield 24, 3) := by decide +kernel
theorem dX10_tick_59 : decode cX10_tick 59 = .ok (.iload_n 1, 1) := by decide +kernel
theorem dX10_tick_60 : decode cX10_tick 60 = .ok (.invokestatic 135, 3) := by decide +kernel
theorem dX10_tick_63 : decode cX10_tick 63 = .ok (.aload_n 0, 1) := by decide +kernel
theorem dX10_tick_64 : decode cX10_tick 64 = .ok (.getfield 24, 3) := by decide +kernel
theorem dX10_tick_67 : decode cX10_tick 67 = .ok (.getfield 177, 3) := by decide +kernel
theorem dX10_tick_70 : decode cX10_tick 70 = .ok (.iconst 0, 1) := by decide +kernel
theorem dX10_tick_71 : decode cX10_tick 71 = .ok (.iconst 5, 1) := by decide +kernel
theorem dX10_tick_72 : decode cX10_tick 72 = .ok (.invokevirtual 122, 3) := by decide +kernel
theorem dX10_tick_75 : decode cX10_tick 75 = .ok (.iload_n 2, 1) := by decide +kernel
theorem dX10_tick_76 : decode cX10_tick 76 = .ok (.isub, 1) := by decide +kernel
theorem dX10_tick_77 : decode cX10_tick 77 = .ok (.ireturn, 1) := by decide +kernel
theorem dX10_give_0 : decode cX10_give 0 = .ok (.aload_n 0, 1) := by decide +kernel
theorem dX10_give_1 : decode cX10_give 1 = .ok (.iload_n 1, 1) := by decide +kernel
theorem dX10_give_2 : decode cX10_give 2 = .ok (.invokevirtual 180, 3) := by decide +kernel
theorem dX10_give_5 : decode cX10_give 5 = .ok (.aload_n 0, 1) := by decide +kernel
theorem dX10_give_6 : decode cX10_give 6 = .ok (.iload_n 2, 1) := by decide +kernel
theorem dX10_give_7 : decode cX10_give 7 = .ok (.iconst 1, 1) := by decide +kernel
theorem dX10_give_8 : decode cX10_give 8 = .ok (.bipush 99, 2) := by decide +kernel
theorem dX10_give_10 : decode cX10_give 10 = .ok (.invokevirtual 168, 3) := by decide +kernel
theorem dX10_give_13 : decode cX10_give 13 = .ok (.aload_n 0, 1) := by decide +kernel
theorem dX10_give_14 : decode cX10_give 14 = .ok (.getfield 24, 3) := by decide +kernel
theorem dX10_give_17 : decode cX10_give 17 = .ok (.iload_n 1, 1) := by decide +kernel
theorem dX10_give_18 : decode cX10_give 18 = .ok (.iload_n 2, 1) := by decide +kernel
theorem dX10_give_19 : decode cX10_give 19 = .ok (.invokevirtual 141, 3) := by decide +kernel
theorem dX10_give_22 : decode cX10_give 22 = .ok (.ifCond .ne 14, 3) := by decide +kernel
theorem dX10_give_25 : decode cX10_give 25 = .ok (.new 277, 3) := by decide +kernel
theorem dX10_give_28 : decode cX10_give 28 = .ok (.dup, 1) := by decide +kernel
theorem dX10_give_29 : decode cX10_give 29 = .ok (.ldc_w 290, 3) := by decide +kernel
theorem dX10_give_32 : decode cX10_give 32 = .ok (.invokespecial 281, 3) := by decide +kernel
theorem dX10_give_35 : decode cX10_give 35 = .ok (.athrow, 1) := by decide +kernel
theorem dX10_give_36 : decode cX10_give 36 = .ok (.aload_n 0, 1) := by decide +kernel
theorem dX10_give_37 : decode cX10_give 37 = .ok (.getfield 37, 3) := by decide +kernel
theorem dX10_give_40 : decode cX10_give 40 = .ok (.aload_n 0, 1) := by decide +kernel
theorem dX10_give_41 : decode cX10_give 41 = .ok (.getfield 24, 3) := by decide +kernel
theorem dX10_give_44 : decode cX10_give 44 = .ok (.invokevirtual 109, 3) := by decide +kernel
theorem dX10_give_47 : decode cX10_give 47 = .ok (.aload_n 0, 1) := by decide +kernel
theorem dX10_give_48 : decode cX10_give 48 = .ok (.getfield 24, 3) := by decide +kernel
theorem dX10_give_51 : decode cX10_give 51 = .ok (.iload_n 1, 1) := by decide +kernel
theorem dX10_give_52 : decode cX10_give 52 = .ok (.iload_n 2, 1) := by decide +kernel
theorem dX10_give_53 : decode cX10_give 53 = .ok (.invokevirtual 145, 3) := by decide +kernel
theorem dX10_give_56 : decode cX10_give 56 = .ok (.aload_n 0, 1) := by decide +kernel
theorem dX10_give_57 : decode cX10_give 57 = .ok (.getfield 24, 3) := by decide +kernel
theorem dX10_give_60 : decode cX10_give 60 = .ok (.getfield 292, 3) := by decide +kernel
theorem dX10_give_63 : decode cX10_give 63 = .ok (.iload_n 1, 1) := by decide +kernel
theorem dX10_give_64 : decode cX10_give 64 = .ok (.iconst 3, 1) := by decide +kernel
theorem dX10_give_65 : decode cX10_give 65 = .ok (.invokevirtual 122, 3) := by decide +kernel
theorem dX10_give_68 : decode cX10_give 68 = .ok (.ireturn, 1) := by decide +kernel
theorem dX10_cut_0 : decode cX10_cut 0 = .ok (.aload_n 0, 1) := by decide +kernel
theorem dX10_cut_1 : decode cX10_cut 1 = .ok (.iload_n 1, 1) := by decide +kernel
theorem dX10_cut_2 : decode cX10_cut 2 = .ok (.invokevirtual 180, 3) := by decide +kernel
theorem dX10_cut_5 : decode cX10_cut 5 = .ok (.aload_n 0, 1) := by decide +kernel
theorem dX10_cut_6 : decode cX10_cut 6 = .ok (.iload_n 2, 1) := by decide +kernel
theorem dX10_cut_7 : decode cX10_cut 7 = .ok (.invokevirtual 180, 3) := by decide +kernel
theorem dX10_cut_10 : decode cX10_cut 10 = .ok (.aload_n 0, 1) := by decide +kernel
theorem dX10_cut_11 : decode cX10_cut 11 = .ok (.getfield 24, 3) := by decide +kernel
theorem dX10_cut_14 : decode cX10_cut 14 = .ok (.iload_n 1, 1) := by decide +kernel
theorem dX10_cut_15 : decode cX10_cut 15 = .ok (.iload_n 2, 1) := by decide +kernel
theorem dX10_cut_16 : decode cX10_cut 16 = .ok (.invokevirtual 295, 3) := by decide +kernel
theorem dX10_cut_19 : decode cX10_cut 19 = .ok (.iconst (-1), 1) := by decide +kernel
theorem dX10_cut_20 : decode cX10_cut 20 = .ok (.if_icmp .ne 14, 3) := by decide +kernel
theorem dX10_cut_23 : decode cX10_cut 23 = .ok (.new 277, 3) := by decide +kernel
theorem dX10_cut_26 : decode cX10_cut 26 = .ok (.dup, 1) := by decide +kernel
theorem dX10_cut_27 : decode cX10_cut 27 = .ok (.ldc_w 298, 3) := by decide +kernel
theorem dX10_cut_30 : decode cX10_cut 30 = .ok (.invokespecial 281, 3) := by decide +kernel
theorem dX10_cut_33 : decode cX10_cut 33 = .ok (.athrow, 1) := by decide +kernel
theorem dX10_cut_34 : decode cX10_cut 34 = .ok (.aload_n 0, 1) := by decide +kernel
theorem dX10_cut_35 : decode cX10_cut 35 = .ok (.getfield 37, 3) := by decide +kernel
theorem dX10_cut_38 : decode cX10_cut 38 = .ok (.aload_n 0, 1) := by decide +kernel
theorem dX10_cut_39 : decode cX10_cut 39 = .ok (.getfield 24, 3) := by decide +kernel
theorem dX10_cut_42 : decode cX10_cut 42 = .ok (.invokevirtual 109, 3) := by decide +kernel
theorem dX10_cut_45 : decode cX10_cut 45 = .ok (.aload_n 0, 1) := by decide +kernel
theorem dX10_cut_46 : decode cX10_cut 46 = .ok (.getfield 24, 3) := by decide +kernel
theorem dX10_cut_49 : decode cX10_cut 49 = .ok (.iload_n 1, 1) := by decide +kernel
theorem dX10_cut_50 : decode cX10_cut 50 = .ok (.iload_n 2, 1) := by decide +kernel
theorem dX10_cut_51 : decode cX10_cut 51 = .ok (.invokevirtual 149, 3) := by decide +kernel
theorem dX10_cut_54 : decode cX10_cut 54 = .ok (.pop, 1) := by decide +kernel
theorem dX10_cut_55 : decode cX10_cut 55 = .ok (.aload_n 0, 1) := by decide +kernel
theorem dX10_cut_56 : decode cX10_cut 56 = .ok (.getfield 24, 3) := by decide +kernel
theorem dX10_cut_59 : decode cX10_cut 59 = .ok (.getfield 104, 3) := by decide +kernel
theorem dX10_cut_62 : decode cX10_cut 62 = .ok (.ireturn, 1) := by decide +kernel
theorem dX10_set_0 : decode cX10_set 0 = .ok (.aload_n 0, 1) := by decide +kernel
theorem dX10_set_1 : decode cX10_set 1 = .ok (.iload_n 1, 1) := by decide +kernel
theorem dX10_set_2 : decode cX10_set 2 = .ok (.bipush 8, 2) := by decide +kernel
theorem dX10_set_4 : decode cX10_set 4 = .ok (.bipush 10, 2) := by decide +kernel
theorem dX10_set_6 : decode cX10_set 6 = .ok (.invokevirtual 168, 3) := by decide +kernel
theorem dX10_set_9 : decode cX10_set 9 = .ok (.aload_n 0, 1) := by decide +kernel
theorem dX10_set_10 : decode cX10_set 10 = .ok (.iload_n 2, 1) := by decide +kernel
theorem dX10_set_11 : decode cX10_set 11 = .ok (.iload_n 1, 1) := by decide +kernel
theorem dX10_set_12 : decode cX10_set 12 = .ok (.invokestatic 300, 3) := by decide +kernel
theorem dX10_set_15 : decode cX10_set 15 = .ok (.iload_n 1, 1) := by decide +kernel
theorem dX10_set_16 : decode cX10_set 16 = .ok (.invokestatic 303, 3) := by decide +kernel
theorem dX10_set_19 : decode cX10_set 19 = .ok (.invokevirtual 168, 3) := by decide +kernel
theorem dX10_set_22 : decode cX10_set 22 = .ok (.aload_n 0, 1) := by decide +kernel
theorem dX10_set_23 : decode cX10_set 23 = .ok (.getfield 37, 3) := by decide +kernel
theorem dX10_set_26 : decode cX10_set 26 = .ok (.aload_n 0, 1) := by decide +kernel
theorem dX10_set_27 : decode cX10_set 27 = .ok (.getfield 24, 3) := by decide +kernel
theorem dX10_set_30 : decode cX10_set 30 = .ok (.invokevirtual 109, 3) := by decide +kernel
theorem dX10_set_33 : decode cX10_set 33 = .ok (.aload_n 0, 1) := by decide +kernel
theorem dX10_set_34 : decode cX10_set 34 = .ok (.getfield 24, 3) := by decide +kernel
theorem dX10_set_37 : decode cX10_set 37 = .ok (.iload_n 1, 1) := by decide +kernel
theorem dX10_set_38 : decode cX10_set 38 = .ok (.invokevirtual 235, 3) := by decide +kernel
theorem dX10_set_41 : decode cX10_set 41 = .ok (.istore_n 3, 1) := by decide +kernel
theorem dX10_set_42 : decode cX10_set 42 = .ok (.aload_n 0, 1) := by decide +kernel
theorem dX10_set_43 : decode cX10_set 43 = .ok (.getfield 24, 3) := by decide +kernel
theorem dX10_set_46 : decode cX10_set 46 = .ok (.iload_n 1, 1) := by decide +kernel
theorem dX10_set_47 : decode cX10_set 47 = .ok (.iload_n 2, 1) := by decide +kernel
theorem dX10_set_48 : decode cX10_set 48 = .ok (.invokevirtual 152, 3) := by decide +kernel
theorem dX10_set_51 : decode cX10_set 51 = .ok (.iload_n 3, 1) := by decide +kernel
theorem dX10_set_52 : decode cX10_set 52 = .ok (.ireturn, 1) := by decide +kernel
theorem dX10_needRoof_0 : decode cX10_needRoof 0 = .ok (.iload_n 1, 1) := by decide +kernel
theorem dX10_needRoof_1 : decode cX10_needRoof 1 = .ok (.ifCond .lt 14, 3) := by decide +kernel
theorem dX10_needRoof_4 : decode cX10_needRoof 4 = .ok (.iload_n 1, 1) := by decide +kernel
theorem dX10_needRoof_5 : decode cX10_needRoof 5 = .ok (.aload_n 0, 1) := by decide +kernel
theorem dX10_needRoof_6 : decode cX10_needRoof 6 = .ok (.getfield 24, 3) := by decide +kernel
theorem dX10_needRoof_9 : decode cX10_needRoof 9 = .ok (.getfield 249, 3) := by decide +kernel
theorem dX10_needRoof_12 : decode cX10_needRoof 12 = .ok (.if_icmp .lt 14, 3) := by decide +kernel
theorem dX10_needRoof_15 : decode cX10_needRoof 15 = .ok (.new 189, 3) := by decide +kernel
theorem dX10_needRoof_18 : decode cX10_needRoof 18 = .ok (.dup, 1) := by decide +kernel
theorem dX10_needRoof_19 : decode cX10_needRoof 19 = .ok (.ldc_w 333, 3) := by decide +kernel
theorem dX10_needRoof_22 : decode cX10_needRoof 22 = .ok (.invokespecial 193, 3) := by decide +kernel
theorem dX10_needRoof_25 : decode cX10_needRoof 25 = .ok (.athrow, 1) := by decide +kernel
theorem dX10_needRoof_26 : decode cX10_needRoof 26 = .ok (.return_, 1) := by decide +kernel
theorem dX10_needTune_0 : decode cX10_needTune 0 = .ok (.iload_n 1, 1) := by decide +kernel
theorem dX10_needTune_1 : decode cX10_needTune 1 = .ok (.ifCond .lt 14, 3) := by decide +kernel
theorem dX10_needTune_4 : decode cX10_needTune 4 = .ok (.iload_n 1, 1) := by decide +kernel
theorem dX10_needTune_5 : decode cX10_needTune 5 = .ok (.aload_n 0, 1) := by decide +kernel
theorem dX10_needTune_6 : decode cX10_needTune 6 = .ok (.getfield 24, 3) := by decide +kernel
theorem dX10_needTune_9 : decode cX10_needTune 9 = .ok (.getfield 155, 3) := by decide +kernel
theorem dX10_needTune_12 : decode cX10_needTune 12 = .ok (.if_icmp .lt 14, 3) := by decide +kernel
theorem dX10_needTune_15 : decode cX10_needTune 15 = .ok (.new 189, 3) := by decide +kernel
theorem dX10_needTune_18 : decode cX10_needTune 18 = .ok (.dup, 1) := by decide +kernel
theorem dX10_needTune_19 : decode cX10_needTune 19 = .ok (.ldc_w 335, 3) := by decide +kernel
theorem dX10_needTune_22 : decode cX10_needTune 22 = .ok (.invokespecial 193, 3) := by decide +kernel
theorem dX10_needTune_25 : decode cX10_needTune 25 = .ok (.athrow, 1) := by decide +kernel
theorem dX10_needTune_26 : decode cX10_needTune 26 = .ok (.return_, 1) := by decide +kernel
theorem dX10_needNumber_0 : decode cX10_needNumber 0 = .ok (.iload_n 1, 1) := by decide +kernel
theorem dX10_needNumber_1 : decode cX10_needNumber 1 = .ok (.iload_n 2, 1) := by decide +kernel
theorem dX10_needNumber_2 : decode cX10_needNumber 2 = .ok (.if_icmp .lt 8, 3) := by decide +kernel
theorem dX10_needNumber_5 : decode cX10_needNumber 5 = .ok (.iload_n 1, 1) := by decide +kernel
theorem dX10_needNumber_6 : decode cX10_needNumber 6 = .ok (.iload_n 3, 1) := by decide +kernel
theorem dX10_needNumber_7 : decode cX10_needNumber 7 = .ok (.if_icmp .le 14, 3) := by decide +kernel
theorem dX10_needNumber_10 : decode cX10_needNumber 10 = .ok (.new 266, 3) := by decide +kernel
theorem dX10_needNumber_13 : decode cX10_needNumber 13 = .ok (.dup, 1) := by decide +kernel
theorem dX10_needNumber_14 : decode cX10_needNumber 14 = .ok (.ldc_w 337, 3) := by decide +kernel
theorem dX10_needNumber_17 : decode cX10_needNumber 17 = .ok (.invokespecial 270, 3) := by decide +kernel
theorem dX10_needNumber_20 : decode cX10_needNumber 20 = .ok (.athrow, 1) := by decide +kernel
theorem dX10_needNumber_21 : decode cX10_needNumber 21 = .ok (.return_, 1) := by decide +kernel
theorem dJ5_init_d00df_0 : decode cJ5_init_d00df 0 = .ok (.aload_n 0, 1) := by decide +kernel
theorem dJ5_init_d00df_1 : decode cJ5_init_d00df 1 = .ok (.invokespecial 3, 3) := by decide +kernel
theorem dJ5_init_d00df_4 : decode cJ5_init_d00df 4 = .ok (.getstatic 18, 3) := by decide +kernel
theorem dJ5_init_d00df_7 : decode cJ5_init_d00df 7 = .ok (.ifCond .eq 18, 3) := by decide +kernel
theorem dJ5_init_d00df_10 : decode cJ5_init_d00df 10 = .ok (.aload_n 0, 1) := by decide +kernel
theorem dJ5_init_d00df_11 : decode cJ5_init_d00df 11 = .ok (.iload_n 1, 1) := by decide +kernel
theorem dJ5_init_d00df_12 : decode cJ5_init_d00df 12 = .ok (.newarray .byte, 2) := by decide +kernel
theorem dJ5_init_d00df_14 : decode cJ5_init_d00df 14 = .ok (.putfield 15, 3) := by decide +kernel
theorem dJ5_init_d00df_17 : decode cJ5_init_d00df 17 = .ok (.aload_n 0, 1) := by decide +kernel
theorem dJ5_init_d00df_18 : decode cJ5_init_d00df 18 = .ok (.iconst 0, 1) := by decide +kernel
theorem dJ5_init_d00df_19 : decode cJ5_init_d00df 19 = .ok (.putfield 22, 3) := by decide +kernel
theorem dJ5_init_d00df_22 : decode cJ5_init_d00df 22 = .ok (.goto 16, 3) := by decide +kernel
theorem dJ5_init_d00df_25 : decode cJ5_init_d00df 25 = .ok (.aload_n 0, 1) := by decide +kernel
theorem dJ5_init_d00df_26 : decode cJ5_init_d00df 26 = .ok (.iload_n 1, 1) := by decide +kernel
theorem dJ5_init_d00df_27 : decode cJ5_init_d00df 27 = .ok (.invokestatic 26, 3) := by decide +kernel
theorem dJ5_init_d00df_30 : decode cJ5_init_d00df 30 = .ok (.putfield 15, 3) := by decide +kernel
theorem dJ5_init_d00df_33 : decode cJ5_init_d00df 33 = .ok (.aload_n 0, 1) := by decide +kernel
theorem dJ5_init_d00df_34 : decode cJ5_init_d00df 34 = .ok (.iconst 1, 1) := by decide +kernel
theorem dJ5_init_d00df_35 : decode cJ5_init_d00df 35 = .ok (.putfield 22, 3) := by decide +kernel
theorem dJ5_init_d00df_38 : decode cJ5_init_d00df 38 = .ok (.return_, 1) := by decide +kernel
theorem dJ5_length_8abf5_0 : decode cJ5_length_8abf5 0 = .ok (.aload_n 0, 1) := by decide +kernel
theorem dJ5_length_8abf5_1 : decode cJ5_length_8abf5 1 = .ok (.getfield 79, 3) := by decide +kernel
theorem dJ5_length_8abf5_4 : decode cJ5_length_8abf5 4 = .ok (.ireturn, 1) := by decide +kernel
theorem dJ5_ensureCapacityInternal_d00df_0 : decode cJ5_ensureCapacityInternal_d00df 0 = .ok (.aload_n 0, 1) := by decide +kernel
theorem dJ5_ensureCapacityInternal_d00df_1 : decode cJ5_ensureCapacityInternal_d00df 1 = .ok (.getfield 15, 3) := by decide +kernel
theorem dJ5_ensureCapacityInternal_d00df_4 : decode cJ5_ensureCapacityInternal_d00df 4 = .ok (.arraylength, 1) := by decide +kernel
theorem dJ5_ensureCapacityInternal_d00df_5 : decode cJ5_ensureCapacityInternal_d00df 5 = .ok (.aload_n 0, 1) := by decide +kernel
theorem dJ5_ensureCapacityInternal_d00df_6 : decode cJ5_ensureCapacityInternal_d00df 6 = .ok (.getfield 22, 3) := by decide +kernel
theorem dJ5_ensureCapacityInternal_d00df_9 : decode cJ5_ensureCapacityInternal_d00df 9 = .ok (.ishr, 1) := by decide +kernel
theorem dJ5_ensureCapacityInternal_d00df_10 : decode cJ5_ensureCapacityInternal_d00df 10 = .ok (.istore_n 2, 1) := by decide +kernel
theorem dJ5_ensureCapacityInternal_d00df_11 : decode cJ5_ensureCapacityInternal_d00df 11 = .ok (.iload_n 1, 1) := by decide +kernel
theorem dJ5_ensureCapacityInternal_d00df_12 : decode cJ5_ensureCapacityInternal_d00df 12 = .ok (.iload_n 2, 1) := by decide +kernel
theorem dJ5_ensureCapacityInternal_d00df_13 : decode cJ5_ensureCapacityInternal_d00df 13 = .ok (.isub, 1) := by decide +kernel
theorem dJ5_ensureCapacityInternal_d00df_14 : decode cJ5_ensureCapacityInternal_d00df 14 = .ok (.ifCond .le 24, 3) := by decide +kernel
theorem dJ5_ensureCapacityInternal_d00df_17 : decode cJ5_ensureCapacityInternal_d00df 17 = .ok (.aload_n 0, 1) := by decide +kernel
theorem dJ5_ensureCapacityInternal_d00df_18 : decode cJ5_ensureCapacityInternal_d00df 18 = .ok (.aload_n 0, 1) := by decide +kernel
theorem dJ5_ensureCapacityInternal_d00df_19 : decode cJ5_ensureCapacityInternal_d00df 19 = .ok (.getfield 15, 3) := by decide +kernel
theorem dJ5_ensureCapacityInternal_d00df_22 : decode cJ5_ensureCapacityInternal_d00df 22 = .ok (.aload_n 0, 1) := by decide +kernel
theorem dJ5_ensureCapacityInternal_d00df_23 : decode cJ5_ensureCapacityInternal_d00df 23 = .ok (.iload_n 1, 1) := by decide +kernel
theorem dJ5_ensureCapacityInternal_d00df_24 : decode cJ5_ensureCapacityInternal_d00df 24 = .ok (.invokevirtual 104, 3) := by decide +kernel
theorem dJ5_ensureCapacityInternal_d00df_27 : decode cJ5_ensureCapacityInternal_d00df 27 = .ok (.aload_n 0, 1) := by decide +kernel
theorem dJ5_ensureCapacityInternal_d00df_28 : decode cJ5_ensureCapacityInternal_d00df 28 = .ok (.getfield 22, 3) := by decide +kernel
theorem dJ5_ensureCapacityInternal_d00df_31 : decode cJ5_ensureCapacityInternal_d00df 31 = .ok (.ishl, 1) := by decide +kernel
theorem dJ5_ensureCapacityInternal_d00df_32 : decode cJ5_ensureCapacityInternal_d00df 32 = .ok (.invokestatic 108, 3) := by decide +kernel
theorem dJ5_ensureCapacityInternal_d00df_35 : decode cJ5_ensureCapacityInternal_d00df 35 = .ok (.putfield 15, 3) := by decide +kernel
theorem dJ5_ensureCapacityInternal_d00df_38 : decode cJ5_ensureCapacityInternal_d00df 38 = .ok (.return_, 1) := by decide +kernel
theorem dJ5_newCapacity_0f7a4_0 : decode cJ5_newCapacity_0f7a4 0 = .ok (.aload_n 0, 1) := by decide +kernel
theorem dJ5_newCapacity_0f7a4_1 : decode cJ5_newCapacity_0f7a4 1 = .ok (.getfield 15, 3) := by decide +kernel
theorem dJ5_newCapacity_0f7a4_4 : decode cJ5_newCapacity_0f7a4 4 = .ok (.arraylength, 1) := by decide +kernel
theorem dJ5_newCapacity_0f7a4_5 : decode cJ5_newCapacity_0f7a4 5 = .ok (.istore_n 2, 1) := by decide +kernel
theorem dJ5_newCapacity_0f7a4_6 : decode cJ5_newCapacity_0f7a4 6 = .ok (.iload_n 1, 1) := by decide +kernel
theorem dJ5_newCapacity_0f7a4_7 : decode cJ5_newCapacity_0f7a4 7 = .ok (.aload_n 0, 1) := by decide +kernel
theorem dJ5_newCapacity_0f7a4_8 : decode cJ5_newCapacity_0f7a4 8 = .ok (.getfield 22, 3) := by decide +kernel
theorem dJ5_newCapacity_0f7a4_11 : decode cJ5_newCapacity_0f7a4 11 = .ok (.ishl, 1) := by decide +kernel
theorem dJ5_newCapacity_0f7a4_12 : decode cJ5_newCapacity_0f7a4 12 = .ok (.istore_n 3, 1) := by decide +kernel
theorem dJ5_newCapacity_0f7a4_13 : decode cJ5_newCapacity_0f7a4 13 = .ok (.iload_n 3, 1) := by decide +kernel
theorem dJ5_newCapacity_0f7a4_14 : decode cJ5_newCapacity_0f7a4 14 = .ok (.iload_n 2, 1) := by decide +kernel
theorem dJ5_newCapacity_0f7a4_15 : decode cJ5_newCapacity_0f7a4 15 = .ok (.isub, 1) := by decide +kernel
theorem dJ5_newCapacity_0f7a4_16 : decode cJ5_newCapacity_0f7a4 16 = .ok (.istore 4, 2) := by decide +kernel
theorem dJ5_newCapacity_0f7a4_18 : decode cJ5_newCapacity_0f7a4 18 = .ok (.iload_n 2, 1) := by decide +kernel
theorem dJ5_newCapacity_0f7a4_19 : decode cJ5_newCapacity_0f7a4 19 = .ok (.iload 4, 2) := by decide +kernel
theorem dJ5_newCapacity_0f7a4_21 : decode cJ5_newCapacity_0f7a4 21 = .ok (.iload_n 2, 1) := by decide +kernel
theorem dJ5_newCapacity_0f7a4_22 : decode cJ5_newCapacity_0f7a4 22 = .ok (.iconst 2, 1) := by decide +kernel
theorem dJ5_newCapacity_0f7a4_23 : decode cJ5_newCapacity_0f7a4 23 = .ok (.aload_n 0, 1) := by decide +kernel
theorem dJ5_newCapacity_0f7a4_24 : decode cJ5_newCapacity_0f7a4 24 = .ok (.getfield 22, 3) := by decide +kernel
theorem dJ5_newCapacity_0f7a4_27 : decode cJ5_newCapacity_0f7a4 27 = .ok (.ishl, 1) := by decide +kernel
theorem dJ5_newCapacity_0f7a4_28 : decode cJ5_newCapacity_0f7a4 28 = .ok (.iadd, 1) := by decide +kernel
theorem dJ5_newCapacity_0f7a4_29 : decode cJ5_newCapacity_0f7a4 29 = .ok (.invokestatic 114, 3) := by decide +kernel
theorem dJ5_newCapacity_0f7a4_32 : decode cJ5_newCapacity_0f7a4 32 = .ok (.istore 5, 2) := by decide +kernel
theorem dJ5_newCapacity_0f7a4_34 : decode cJ5_newCapacity_0f7a4 34 = .ok (.iload 5, 2) := by decide +kernel
theorem dJ5_newCapacity_0f7a4_36 : decode cJ5_newCapacity_0f7a4 36 = .ok (.ldc 39, 2) := by decide +kernel
theorem dJ5_newCapacity_0f7a4_38 : decode cJ5_newCapacity_0f7a4 38 = .ok (.if_icmp .ne 13, 3) := by decide +kernel
theorem dJ5_newCapacity_0f7a4_41 : decode cJ5_newCapacity_0f7a4 41 = .ok (.new 120, 3) := by decide +kernel
theorem dJ5_newCapacity_0f7a4_44 : decode cJ5_newCapacity_0f7a4 44 = .ok (.dup, 1) := by decide +kernel
theorem dJ5_newCapacity_0f7a4_45 : decode cJ5_newCapacity_0f7a4 45 = .ok (.ldc 122, 2) := by decide +kernel
theorem dJ5_newCapacity_0f7a4_47 : decode cJ5_newCapacity_0f7a4 47 = .ok (.invokespecial 124, 3) := by decide +kernel
theorem dJ5_newCapacity_0f7a4_50 : decode cJ5_newCapacity_0f7a4 50 = .ok (.athrow, 1) := by decide +kernel
theorem dJ5_newCapacity_0f7a4_51 : decode cJ5_newCapacity_0f7a4 51 = .ok (.iload 5, 2) := by decide +kernel
theorem dJ5_newCapacity_0f7a4_53 : decode cJ5_newCapacity_0f7a4 53 = .ok (.aload_n 0, 1) := by decide +kernel
theorem dJ5_newCapacity_0f7a4_54 : decode cJ5_newCapacity_0f7a4 54 = .ok (.getfield 22, 3) := by decide +kernel
theorem dJ5_newCapacity_0f7a4_57 : decode cJ5_newCapacity_0f7a4 57 = .ok (.ishr, 1) := by decide +kernel
theorem dJ5_newCapacity_0f7a4_58 : decode cJ5_newCapacity_0f7a4 58 = .ok (.ireturn, 1) := by decide +kernel
theorem dJ5_inflate_da8c8_0 : decode cJ5_inflate_da8c8 0 = .ok (.aload_n 0, 1) := by decide +kernel
theorem dJ5_inflate_da8c8_1 : decode cJ5_inflate_da8c8 1 = .ok (.invokevirtual 83, 3) := by decide +kernel
theorem dJ5_inflate_da8c8_4 : decode cJ5_inflate_da8c8 4 = .ok (.ifCond .ne 4, 3) := by decide +kernel
theorem dJ5_inflate_da8c8_7 : decode cJ5_inflate_da8c8 7 = .ok (.return_, 1) := by decide +kernel
theorem dJ5_inflate_da8c8_8 : decode cJ5_inflate_da8c8 8 = .ok (.aload_n 0, 1) := by decide +kernel
theorem dJ5_inflate_da8c8_9 : decode cJ5_inflate_da8c8 9 = .ok (.getfield 15, 3) := by decide +kernel
theorem dJ5_inflate_da8c8_12 : decode cJ5_inflate_da8c8 12 = .ok (.arraylength, 1) := by decide +kernel
theorem dJ5_inflate_da8c8_13 : decode cJ5_inflate_da8c8 13 = .ok (.invokestatic 26, 3) := by decide +kernel
theorem dJ5_inflate_da8c8_16 : decode cJ5_inflate_da8c8 16 = .ok (.astore_n 1, 1) := by decide +kernel
theorem dJ5_inflate_da8c8_17 : decode cJ5_inflate_da8c8 17 = .ok (.aload_n 0, 1) := by decide +kernel
theorem dJ5_inflate_da8c8_18 : decode cJ5_inflate_da8c8 18 = .ok (.getfield 15, 3) := by decide +kernel
theorem dJ5_inflate_da8c8_21 : decode cJ5_inflate_da8c8 21 = .ok (.iconst 0, 1) := by decide +kernel
theorem dJ5_inflate_da8c8_22 : decode cJ5_inflate_da8c8 22 = .ok (.aload_n 1, 1) := by decide +kernel
theorem dJ5_inflate_da8c8_23 : decode cJ5_inflate_da8c8 23 = .ok (.iconst 0, 1) := by decide +kernel
theorem dJ5_inflate_da8c8_24 : decode cJ5_inflate_da8c8 24 = .ok (.aload_n 0, 1) := by decide +kernel
theorem dJ5_inflate_da8c8_25 : decode cJ5_inflate_da8c8 25 = .ok (.getfield 79, 3) := by decide +kernel
theorem dJ5_inflate_da8c8_28 : decode cJ5_inflate_da8c8 28 = .ok (.invokestatic 125, 3) := by decide +kernel
theorem dJ5_inflate_da8c8_31 : decode cJ5_inflate_da8c8 31 = .ok (.aload_n 0, 1) := by decide +kernel
theorem dJ5_inflate_da8c8_32 : decode cJ5_inflate_da8c8 32 = .ok (.aload_n 1, 1) := by decide +kernel
theorem dJ5_inflate_da8c8_33 : decode cJ5_inflate_da8c8 33 = .ok (.putfield 15, 3) := by decide +kernel
theorem dJ5_inflate_da8c8_36 : decode cJ5_inflate_da8c8 36 = .ok (.aload_n 0, 1) := by decide +kernel
theorem dJ5_inflate_da8c8_37 : decode cJ5_inflate_da8c8 37 = .ok (.iconst 1, 1) := by decide +kernel
theorem dJ5_inflate_da8c8_38 : decode cJ5_inflate_da8c8 38 = .ok (.putfield 22, 3) := by decide +kernel
theorem dJ5_inflate_da8c8_41 : decode cJ5_inflate_da8c8 41 = .ok (.return_, 1) := by decide +kernel
theorem dJ5_append_cf1ce_0 : decode cJ5_append_cf1ce 0 = .ok (.aload_n 1, 1) := by decide +kernel
theorem dJ5_append_cf1ce_1 : decode cJ5_append_cf1ce 1 = .ok (.ifnonnull 8, 3) := by decide +kernel
theorem dJ5_append_cf1ce_4 : decode cJ5_append_cf1ce 4 = .ok (.aload_n 0, 1) := by decide +kernel
theorem dJ5_append_cf1ce_5 : decode cJ5_append_cf1ce 5 = .ok (.invokevirtual 204, 3) := by decide +kernel
theorem dJ5_append_cf1ce_8 : decode cJ5_append_cf1ce 8 = .ok (.areturn, 1) := by decide +kernel
theorem dJ5_append_cf1ce_9 : decode cJ5_append_cf1ce 9 = .ok (.aload_n 1, 1) := by decide +kernel
theorem dJ5_append_cf1ce_10 : decode cJ5_append_cf1ce 10 = .ok (.invokevirtual 32, 3) := by decide +kernel
theorem dJ5_append_cf1ce_13 : decode cJ5_append_cf1ce 13 = .ok (.istore_n 2, 1) := by decide +kernel
theorem dJ5_append_cf1ce_14 : decode cJ5_append_cf1ce 14 = .ok (.aload_n 0, 1) := by decide +kernel
theorem dJ5_append_cf1ce_15 : decode cJ5_append_cf1ce 15 = .ok (.aload_n 0, 1) := by decide +kernel
theorem dJ5_append_cf1ce_16 : decode cJ5_append_cf1ce 16 = .ok (.getfield 79, 3) := by decide +kernel
theorem dJ5_append_cf1ce_19 : decode cJ5_append_cf1ce 19 = .ok (.iload_n 2, 1) := by decide +kernel
theorem dJ5_append_cf1ce_20 : decode cJ5_append_cf1ce 20 = .ok (.iadd, 1) := by decide +kernel
theorem dJ5_append_cf1ce_21 : decode cJ5_append_cf1ce 21 = .ok (.invokevirtual 100, 3) := by decide +kernel
theorem dJ5_append_cf1ce_24 : decode cJ5_append_cf1ce 24 = .ok (.aload_n 0, 1) := by decide +kernel
theorem dJ5_append_cf1ce_25 : decode cJ5_append_cf1ce 25 = .ok (.aload_n 0, 1) := by decide +kernel
theorem dJ5_append_cf1ce_26 : decode cJ5_append_cf1ce 26 = .ok (.getfield 79, 3) := by decide +kernel
theorem dJ5_append_cf1ce_29 : decode cJ5_append_cf1ce 29 = .ok (.aload_n 1, 1) := by decide +kernel
theorem dJ5_append_cf1ce_30 : decode cJ5_append_cf1ce 30 = .ok (.invokevirtual 208, 3) := by decide +kernel
theorem dJ5_append_cf1ce_33 : decode cJ5_append_cf1ce 33 = .ok (.aload_n 0, 1) := by decide +kernel
theorem dJ5_append_cf1ce_34 : decode cJ5_append_cf1ce 34 = .ok (.dup, 1) := by decide +kernel
theorem dJ5_append_cf1ce_35 : decode cJ5_append_cf1ce 35 = .ok (.getfield 79, 3) := by decide +kernel
theorem dJ5_append_cf1ce_38 : decode cJ5_append_cf1ce 38 = .ok (.iload_n 2, 1) := by decide +kernel
theorem dJ5_append_cf1ce_39 : decode cJ5_append_cf1ce 39 = .ok (.iadd, 1) := by decide +kernel
theorem dJ5_append_cf1ce_40 : decode cJ5_append_cf1ce 40 = .ok (.putfield 79, 3) := by decide +kernel
theorem dJ5_append_cf1ce_43 : decode cJ5_append_cf1ce 43 = .ok (.aload_n 0, 1) := by decide +kernel
theorem dJ5_append_cf1ce_44 : decode cJ5_append_cf1ce 44 = .ok (.areturn, 1) := by decide +kernel
theorem dJ5_appendNull_278bc_0 : decode cJ5_appendNull_278bc 0 = .ok (.aload_n 0, 1) := by decide +kernel
theorem dJ5_appendNull_278bc_1 : decode cJ5_appendNull_278bc 1 = .ok (.aload_n 0, 1) := by decide +kernel
theorem dJ5_appendNull_278bc_2 : decode cJ5_appendNull_278bc 2 = .ok (.getfield 79, 3) := by decide +kernel
theorem dJ5_appendNull_278bc_5 : decode cJ5_appendNull_278bc 5 = .ok (.iconst 4, 1) := by decide +kernel
theorem dJ5_appendNull_278bc_6 : decode cJ5_appendNull_278bc 6 = .ok (.iadd, 1) := by decide +kernel
theorem dJ5_appendNull_278bc_7 : decode cJ5_appendNull_278bc 7 = .ok (.invokevirtual 100, 3) := by decide +kernel
theorem dJ5_appendNull_278bc_10 : decode cJ5_appendNull_278bc 10 = .ok (.aload_n 0, 1) := by decide +kernel
theorem dJ5_appendNull_278bc_11 : decode cJ5_appendNull_278bc 11 = .ok (.getfield 79, 3) := by decide +kernel
theorem dJ5_appendNull_278bc_14 : decode cJ5_appendNull_278bc 14 = .ok (.istore_n 1, 1) := by decide +kernel
theorem dJ5_appendNull_278bc_15 : decode cJ5_appendNull_278bc 15 = .ok (.aload_n 0, 1) := by decide +kernel
theorem dJ5_appendNull_278bc_16 : decode cJ5_appendNull_278bc 16 = .ok (.getfield 15, 3) := by decide +kernel
theorem dJ5_appendNull_278bc_19 : decode cJ5_appendNull_278bc 19 = .ok (.astore_n 2, 1) := by decide +kernel
theorem dJ5_appendNull_278bc_20 : decode cJ5_appendNull_278bc 20 = .ok (.aload_n 0, 1) := by decide +kernel
theorem dJ5_appendNull_278bc_21 : decode cJ5_appendNull_278bc 21 = .ok (.invokevirtual 83, 3) := by decide +kernel
theorem dJ5_appendNull_278bc_24 : decode cJ5_appendNull_278bc 24 = .ok (.ifCond .eq 38, 3) := by decide +kernel
theorem dJ5_appendNull_278bc_27 : decode cJ5_appendNull_278bc 27 = .ok (.aload_n 2, 1) := by decide +kernel
theorem dJ5_appendNull_278bc_28 : decode cJ5_appendNull_278bc 28 = .ok (.iload_n 1, 1) := by decide +kernel
theorem dJ5_appendNull_278bc_29 : decode cJ5_appendNull_278bc 29 = .ok (.iinc 1 1, 3) := by decide +kernel
theorem dJ5_appendNull_278bc_32 : decode cJ5_appendNull_278bc 32 = .ok (.bipush 110, 2) := by decide +kernel
theorem dJ5_appendNull_278bc_34 : decode cJ5_appendNull_278bc 34 = .ok (.bastore, 1) := by decide +kernel
theorem dJ5_appendNull_278bc_35 : decode cJ5_appendNull_278bc 35 = .ok (.aload_n 2, 1) := by decide +kernel
theorem dJ5_appendNull_278bc_36 : decode cJ5_appendNull_278bc 36 = .ok (.iload_n 1, 1) := by decide +kernel
theorem dJ5_appendNull_278bc_37 : decode cJ5_appendNull_278bc 37 = .ok (.iinc 1 1, 3) := by decide +kernel
theorem dJ5_appendNull_278bc_40 : decode cJ5_appendNull_278bc 40 = .ok (.bipush 117, 2) := by decide +kernel
theorem dJ5_appendNull_278bc_42 : decode cJ5_appendNull_278bc 42 = .ok (.bastore, 1) := by decide +kernel
theorem dJ5_appendNull_278bc_43 : decode cJ5_appendNull_278bc 43 = .ok (.aload_n 2, 1) := by decide +kernel
theorem dJ5_appendNull_278bc_44 : decode cJ5_appendNull_278bc 44 = .ok (.iload_n 1, 1) := by decide +kernel
theorem dJ5_appendNull_278bc_45 : decode cJ5_appendNull_278bc 45 = .ok (.iinc 1 1, 3) := by decide +kernel
theorem dJ5_appendNull_278bc_48 : decode cJ5_appendNull_278bc 48 = .ok (.bipush 108, 2) := by decide +kernel
theorem dJ5_appendNull_278bc_50 : decode cJ5_appendNull_278bc 50 = .ok (.bastore, 1) := by decide +kernel
theorem dJ5_appendNull_278bc_51 : decode cJ5_appendNull_278bc 51 = .ok (.aload_n 2, 1) := by decide +kernel
theorem dJ5_appendNull_278bc_52 : decode cJ5_appendNull_278bc 52 = .ok (.iload_n 1, 1) := by decide +kernel
theorem dJ5_appendNull_278bc_53 : decode cJ5_appendNull_278bc 53 = .ok (.iinc 1 1, 3) := by decide +kernel
theorem dJ5_appendNull_278bc_56 : decode cJ5_appendNull_278bc 56 = .ok (.bipush 108, 2) := by decide +kernel
theorem dJ5_appendNull_278bc_58 : decode cJ5_appendNull_278bc 58 = .ok (.bastore, 1) := by decide +kernel
theorem dJ5_appendNull_278bc_59 : decode cJ5_appendNull_278bc 59 = .ok (.goto 17, 3) := by decide +kernel
theorem dJ5_appendNull_278bc_62 : decode cJ5_appendNull_278bc 62 = .ok (.aload_n 2, 1) := by decide +kernel
theorem dJ5_appendNull_278bc_63 : decode cJ5_appendNull_278bc 63 = .ok (.iload_n 1, 1) := by decide +kernel
theorem dJ5_appendNull_278bc_64 : decode cJ5_appendNull_278bc 64 = .ok (.bipush 110, 2) := by decide +kernel
theorem dJ5_appendNull_278bc_66 : decode cJ5_appendNull_278bc 66 = .ok (.bipush 117, 2) := by decide +kernel
theorem dJ5_appendNull_278bc_68 : decode cJ5_appendNull_278bc 68 = .ok (.bipush 108, 2) := by decide +kernel
theorem dJ5_appendNull_278bc_70 : decode cJ5_appendNull_278bc 70 = .ok (.bipush 108, 2) := by decide +kernel
theorem dJ5_appendNull_278bc_72 : decode cJ5_appendNull_278bc 72 = .ok (.invokestatic 226, 3) := by decide +kernel
theorem dJ5_appendNull_278bc_75 : decode cJ5_appendNull_278bc 75 = .ok (.istore_n 1, 1) := by decide +kernel
theorem dJ5_appendNull_278bc_76 : decode cJ5_appendNull_278bc 76 = .ok (.aload_n 0, 1) := by decide +kernel
theorem dJ5_appendNull_278bc_77 : decode cJ5_appendNull_278bc 77 = .ok (.iload_n 1, 1) := by decide +kernel
theorem dJ5_appendNull_278bc_78 : decode cJ5_appendNull_278bc 78 = .ok (.putfield 79, 3) := by decide +kernel
theorem dJ5_appendNull_278bc_81 : decode cJ5_appendNull_278bc 81 = .ok (.aload_n 0, 1) := by decide +kernel
theorem dJ5_appendNull_278bc_82 : decode cJ5_appendNull_278bc 82 = .ok (.areturn, 1) := by decide +kernel
theorem dJ5_append_3fe6f_0 : decode cJ5_append_3fe6f 0 = .ok (.aload_n 0, 1) := by decide +kernel
theorem dJ5_append_3fe6f_1 : decode cJ5_append_3fe6f 1 = .ok (.aload_n 0, 1) := by decide +kernel
theorem dJ5_append_3fe6f_2 : decode cJ5_append_3fe6f 2 = .ok (.getfield 79, 3) := by decide +kernel
theorem dJ5_append_3fe6f_5 : decode cJ5_append_3fe6f 5 = .ok (.iconst 1, 1) := by decide +kernel
theorem dJ5_append_3fe6f_6 : decode cJ5_append_3fe6f 6 = .ok (.iadd, 1) := by decide +kernel
theorem dJ5_append_3fe6f_7 : decode cJ5_append_3fe6f 7 = .ok (.invokevirtual 100, 3) := by decide +kernel
theorem dJ5_append_3fe6f_10 : decode cJ5_append_3fe6f 10 = .ok (.aload_n 0, 1) := by decide +kernel
theorem dJ5_append_3fe6f_11 : decode cJ5_append_3fe6f 11 = .ok (.invokevirtual 83, 3) := by decide +kernel
theorem dJ5_append_3fe6f_14 : decode cJ5_append_3fe6f 14 = .ok (.ifCond .eq 31, 3) := by decide +kernel
theorem dJ5_append_3fe6f_17 : decode cJ5_append_3fe6f 17 = .ok (.iload_n 1, 1) := by decide +kernel
theorem dJ5_append_3fe6f_18 : decode cJ5_append_3fe6f 18 = .ok (.invokestatic 191, 3) := by decide +kernel
theorem dJ5_append_3fe6f_21 : decode cJ5_append_3fe6f 21 = .ok (.ifCond .eq 24, 3) := by decide +kernel
theorem dJ5_append_3fe6f_24 : decode cJ5_append_3fe6f 24 = .ok (.aload_n 0, 1) := by decide +kernel
theorem dJ5_append_3fe6f_25 : decode cJ5_append_3fe6f 25 = .ok (.getfield 15, 3) := by decide +kernel
theorem dJ5_append_3fe6f_28 : decode cJ5_append_3fe6f 28 = .ok (.aload_n 0, 1) := by decide +kernel
theorem dJ5_append_3fe6f_29 : decode cJ5_append_3fe6f 29 = .ok (.dup, 1) := by decide +kernel
theorem dJ5_append_3fe6f_30 : decode cJ5_append_3fe6f 30 = .ok (.getfield 79, 3) := by decide +kernel
theorem dJ5_append_3fe6f_33 : decode cJ5_append_3fe6f 33 = .ok (.dup_x1, 1) := by decide +kernel
theorem dJ5_append_3fe6f_34 : decode cJ5_append_3fe6f 34 = .ok (.iconst 1, 1) := by decide +kernel
theorem dJ5_append_3fe6f_35 : decode cJ5_append_3fe6f 35 = .ok (.iadd, 1) := by decide +kernel
theorem dJ5_append_3fe6f_36 : decode cJ5_append_3fe6f 36 = .ok (.putfield 79, 3) := by decide +kernel
theorem dJ5_append_3fe6f_39 : decode cJ5_append_3fe6f 39 = .ok (.iload_n 1, 1) := by decide +kernel
theorem dJ5_append_3fe6f_40 : decode cJ5_append_3fe6f 40 = .ok (.i2b, 1) := by decide +kernel
theorem dJ5_append_3fe6f_41 : decode cJ5_append_3fe6f 41 = .ok (.bastore, 1) := by decide +kernel
theorem dJ5_append_3fe6f_42 : decode cJ5_append_3fe6f 42 = .ok (.goto 33, 3) := by decide +kernel
theorem dJ5_append_3fe6f_45 : decode cJ5_append_3fe6f 45 = .ok (.aload_n 0, 1) := by decide +kernel
theorem dJ5_append_3fe6f_46 : decode cJ5_append_3fe6f 46 = .ok (.invokevirtual 83, 3) := by decide +kernel
theorem dJ5_append_3fe6f_49 : decode cJ5_append_3fe6f 49 = .ok (.ifCond .eq 7, 3) := by decide +kernel
theorem dJ5_append_3fe6f_52 : decode cJ5_append_3fe6f 52 = .ok (.aload_n 0, 1) := by decide +kernel
theorem dJ5_append_3fe6f_53 : decode cJ5_append_3fe6f 53 = .ok (.invokevirtual 195, 3) := by decide +kernel
theorem dJ5_append_3fe6f_56 : decode cJ5_append_3fe6f 56 = .ok (.aload_n 0, 1) := by decide +kernel
theorem dJ5_append_3fe6f_57 : decode cJ5_append_3fe6f 57 = .ok (.getfield 15, 3) := by decide +kernel
theorem dJ5_append_3fe6f_60 : decode cJ5_append_3fe6f 60 = .ok (.aload_n 0, 1) := by decide +kernel
theorem dJ5_append_3fe6f_61 : decode cJ5_append_3fe6f 61 = .ok (.dup, 1) := by decide +kernel
theorem dJ5_append_3fe6f_62 : decode cJ5_append_3fe6f 62 = .ok (.getfield 79, 3) := by decide +kernel
theorem dJ5_append_3fe6f_65 : decode cJ5_append_3fe6f 65 = .ok (.dup_x1, 1) := by decide +kernel
theorem dJ5_append_3fe6f_66 : decode cJ5_append_3fe6f 66 = .ok (.iconst 1, 1) := by decide +kernel
theorem dJ5_append_3fe6f_67 : decode cJ5_append_3fe6f 67 = .ok (.iadd, 1) := by decide +kernel
theorem dJ5_append_3fe6f_68 : decode cJ5_append_3fe6f 68 = .ok (.putfield 79, 3) := by decide +kernel
theorem dJ5_append_3fe6f_71 : decode cJ5_append_3fe6f 71 = .ok (.iload_n 1, 1) := by decide +kernel
theorem dJ5_append_3fe6f_72 : decode cJ5_append_3fe6f 72 = .ok (.invokestatic 197, 3) := by decide +kernel
theorem dJ5_append_3fe6f_75 : decode cJ5_append_3fe6f 75 = .ok (.aload_n 0, 1) := by decide +kernel
theorem dJ5_append_3fe6f_76 : decode cJ5_append_3fe6f 76 = .ok (.areturn, 1) := by decide +kernel
theorem dJ5_append_c97b9_0 : decode cJ5_append_c97b9 0 = .ok (.aload_n 0, 1) := by decide +kernel
theorem dJ5_append_c97b9_1 : decode cJ5_append_c97b9 1 = .ok (.getfield 79, 3) := by decide +kernel
theorem dJ5_append_c97b9_4 : decode cJ5_append_c97b9 4 = .ok (.istore_n 2, 1) := by decide +kernel
theorem dJ5_append_c97b9_5 : decode cJ5_append_c97b9 5 = .ok (.iload_n 2, 1) := by decide +kernel
theorem dJ5_append_c97b9_6 : decode cJ5_append_c97b9 6 = .ok (.iload_n 1, 1) := by decide +kernel
theorem dJ5_append_c97b9_7 : decode cJ5_append_c97b9 7 = .ok (.invokestatic 245, 3) := by decide +kernel
theorem dJ5_append_c97b9_10 : decode cJ5_append_c97b9 10 = .ok (.iadd, 1) := by decide +kernel
theorem dJ5_append_c97b9_11 : decode cJ5_append_c97b9 11 = .ok (.istore_n 3, 1) := by decide +kernel
theorem dJ5_append_c97b9_12 : decode cJ5_append_c97b9 12 = .ok (.aload_n 0, 1) := by decide +kernel
theorem dJ5_append_c97b9_13 : decode cJ5_append_c97b9 13 = .ok (.iload_n 3, 1) := by decide +kernel
theorem dJ5_append_c97b9_14 : decode cJ5_append_c97b9 14 = .ok (.invokevirtual 100, 3) := by decide +kernel
theorem dJ5_append_c97b9_17 : decode cJ5_append_c97b9 17 = .ok (.aload_n 0, 1) := by decide +kernel
theorem dJ5_append_c97b9_18 : decode cJ5_append_c97b9 18 = .ok (.invokevirtual 83, 3) := by decide +kernel
theorem dJ5_append_c97b9_21 : decode cJ5_append_c97b9 21 = .ok (.ifCond .eq 16, 3) := by decide +kernel
theorem dJ5_append_c97b9_24 : decode cJ5_append_c97b9 24 = .ok (.iload_n 1, 1) := by decide +kernel
theorem dJ5_append_c97b9_25 : decode cJ5_append_c97b9 25 = .ok (.iload_n 3, 1) := by decide +kernel
theorem dJ5_append_c97b9_26 : decode cJ5_append_c97b9 26 = .ok (.aload_n 0, 1) := by decide +kernel
theorem dJ5_append_c97b9_27 : decode cJ5_append_c97b9 27 = .ok (.getfield 15, 3) := by decide +kernel
theorem dJ5_append_c97b9_30 : decode cJ5_append_c97b9 30 = .ok (.invokestatic 248, 3) := by decide +kernel
theorem dJ5_append_c97b9_33 : decode cJ5_append_c97b9 33 = .ok (.pop, 1) := by decide +kernel
theorem dJ5_append_c97b9_34 : decode cJ5_append_c97b9 34 = .ok (.goto 14, 3) := by decide +kernel
theorem dJ5_append_c97b9_37 : decode cJ5_append_c97b9 37 = .ok (.iload_n 1, 1) := by decide +kernel
theorem dJ5_append_c97b9_38 : decode cJ5_append_c97b9 38 = .ok (.iload_n 2, 1) := by decide +kernel
theorem dJ5_append_c97b9_39 : decode cJ5_append_c97b9 39 = .ok (.iload_n 3, 1) := by decide +kernel
theorem dJ5_append_c97b9_40 : decode cJ5_append_c97b9 40 = .ok (.aload_n 0, 1) := by decide +kernel
theorem dJ5_append_c97b9_41 : decode cJ5_append_c97b9 41 = .ok (.getfield 15, 3) := by decide +kernel
theorem dJ5_append_c97b9_44 : decode cJ5_append_c97b9 44 = .ok (.invokestatic 251, 3) := by decide +kernel
theorem dJ5_append_c97b9_47 : decode cJ5_append_c97b9 47 = .ok (.pop, 1) := by decide +kernel
theorem dJ5_append_c97b9_48 : decode cJ5_append_c97b9 48 = .ok (.aload_n 0, 1) := by decide +kernel
theorem dJ5_append_c97b9_49 : decode cJ5_append_c97b9 49 = .ok (.iload_n 3, 1) := by decide +kernel
theorem dJ5_append_c97b9_50 : decode cJ5_append_c97b9 50 = .ok (.putfield 79, 3) := by decide +kernel
theorem dJ5_append_c97b9_53 : decode cJ5_append_c97b9 53 = .ok (.aload_n 0, 1) := by decide +kernel
theorem dJ5_append_c97b9_54 : decode cJ5_append_c97b9 54 = .ok (.areturn, 1) := by decide +kernel
theorem dJ5_getValue_6d5f1_0 : decode cJ5_getValue_6d5f1 0 = .ok (.aload_n 0, 1) := by decide +kernel
theorem dJ5_getValue_6d5f1_1 : decode cJ5_getValue_6d5f1 1 = .ok (.getfield 15, 3) := by decide +kernel
theorem dJ5_getValue_6d5f1_4 : decode cJ5_getValue_6d5f1 4 = .ok (.areturn, 1) := by decide +kernel
theorem dJ5_isLatin1_aae02_0 : decode cJ5_isLatin1_aae02 0 = .ok (.getstatic 18, 3) := by decide +kernel
theorem dJ5_isLatin1_aae02_3 : decode cJ5_isLatin1_aae02 3 = .ok (.ifCond .eq 14, 3) := by decide +kernel
theorem dJ5_isLatin1_aae02_6 : decode cJ5_isLatin1_aae02 6 = .ok (.aload_n 0, 1) := by decide +kernel
theorem dJ5_isLatin1_aae02_7 : decode cJ5_isLatin1_aae02 7 = .ok (.getfield 22, 3) := by decide +kernel
theorem dJ5_isLatin1_aae02_10 : decode cJ5_isLatin1_aae02 10 = .ok (.ifCond .ne 7, 3) := by decide +kernel
theorem dJ5_isLatin1_aae02_13 : decode cJ5_isLatin1_aae02 13 = .ok (.iconst 1, 1) := by decide +kernel
theorem dJ5_isLatin1_aae02_14 : decode cJ5_isLatin1_aae02 14 = .ok (.goto 4, 3) := by decide +kernel
theorem dJ5_isLatin1_aae02_17 : decode cJ5_isLatin1_aae02 17 = .ok (.iconst 0, 1) := by decide +kernel
theorem dJ5_isLatin1_aae02_18 : decode cJ5_isLatin1_aae02 18 = .ok (.ireturn, 1) := by decide +kernel
theorem dJ5_inflateIfNeededFor_a7421_0 : decode cJ5_inflateIfNeededFor_a7421 0 = .ok (.getstatic 18, 3) := by decide +kernel
theorem dJ5_inflateIfNeededFor_a7421_3 : decode cJ5_inflateIfNeededFor_a7421 3 = .ok (.ifCond .eq 18, 3) := by decide +kernel
theorem dJ5_inflateIfNeededFor_a7421_6 : decode cJ5_inflateIfNeededFor_a7421 6 = .ok (.aload_n 0, 1) := by decide +kernel
theorem dJ5_inflateIfNeededFor_a7421_7 : decode cJ5_inflateIfNeededFor_a7421 7 = .ok (.getfield 22, 3) := by decide +kernel
theorem dJ5_inflateIfNeededFor_a7421_10 : decode cJ5_inflateIfNeededFor_a7421 10 = .ok (.aload_n 1, 1) := by decide +kernel
theorem dJ5_inflateIfNeededFor_a7421_11 : decode cJ5_inflateIfNeededFor_a7421 11 = .ok (.invokevirtual 40, 3) := by decide +kernel
theorem dJ5_inflateIfNeededFor_a7421_14 : decode cJ5_inflateIfNeededFor_a7421 14 = .ok (.if_icmp .eq 7, 3) := by decide +kernel
theorem dJ5_inflateIfNeededFor_a7421_17 : decode cJ5_inflateIfNeededFor_a7421 17 = .ok (.aload_n 0, 1) := by decide +kernel
theorem dJ5_inflateIfNeededFor_a7421_18 : decode cJ5_inflateIfNeededFor_a7421 18 = .ok (.invokevirtual 195, 3) := by decide +kernel
theorem dJ5_inflateIfNeededFor_a7421_21 : decode cJ5_inflateIfNeededFor_a7421 21 = .ok (.return_, 1) := by decide +kernel
theorem dJ5_putStringAt_47b60_0 : decode cJ5_putStringAt_47b60 0 = .ok (.aload_n 0, 1) := by decide +kernel
theorem dJ5_putStringAt_47b60_1 : decode cJ5_putStringAt_47b60 1 = .ok (.aload_n 2, 1) := by decide +kernel
theorem dJ5_putStringAt_47b60_2 : decode cJ5_putStringAt_47b60 2 = .ok (.invokevirtual 397, 3) := by decide +kernel
theorem dJ5_putStringAt_47b60_5 : decode cJ5_putStringAt_47b60 5 = .ok (.aload_n 2, 1) := by decide +kernel
theorem dJ5_putStringAt_47b60_6 : decode cJ5_putStringAt_47b60 6 = .ok (.aload_n 0, 1) := by decide +kernel
theorem dJ5_putStringAt_47b60_7 : decode cJ5_putStringAt_47b60 7 = .ok (.getfield 15, 3) := by decide +kernel
theorem dJ5_putStringAt_47b60_10 : decode cJ5_putStringAt_47b60 10 = .ok (.iload_n 1, 1) := by decide +kernel
theorem dJ5_putStringAt_47b60_11 : decode cJ5_putStringAt_47b60 11 = .ok (.aload_n 0, 1) := by decide +kernel
theorem dJ5_putStringAt_47b60_12 : decode cJ5_putStringAt_47b60 12 = .ok (.getfield 22, 3) := by decide +kernel
theorem dJ5_putStringAt_47b60_15 : decode cJ5_putStringAt_47b60 15 = .ok (.invokevirtual 399, 3) := by decide +kernel
theorem dJ5_putStringAt_47b60_18 : decode cJ5_putStringAt_47b60 18 = .ok (.return_, 1) := by decide +kernel
theorem dJ6_getChars_ba4f3_0 : decode cJ6_getChars_ba4f3 0 = .ok (.iload_n 1, 1) := by decide +kernel
theorem dJ6_getChars_ba4f3_1 : decode cJ6_getChars_ba4f3 1 = .ok (.istore 5, 2) := by decide +kernel
theorem dJ6_getChars_ba4f3_3 : decode cJ6_getChars_ba4f3 3 = .ok (.iload_n 0, 1) := by decide +kernel
theorem dJ6_getChars_ba4f3_4 : decode cJ6_getChars_ba4f3 4 = .ok (.ifCond .ge 7, 3) := by decide +kernel
theorem dJ6_getChars_ba4f3_7 : decode cJ6_getChars_ba4f3 7 = .ok (.iconst 1, 1) := by decide +kernel
theorem dJ6_getChars_ba4f3_8 : decode cJ6_getChars_ba4f3 8 = .ok (.goto 4, 3) := by decide +kernel
theorem dJ6_getChars_ba4f3_11 : decode cJ6_getChars_ba4f3 11 = .ok (.iconst 0, 1) := by decide +kernel
theorem dJ6_getChars_ba4f3_12 : decode cJ6_getChars_ba4f3 12 = .ok (.istore 6, 2) := by decide +kernel
theorem dJ6_getChars_ba4f3_14 : decode cJ6_getChars_ba4f3 14 = .ok (.iload 6, 2) := by decide +kernel
theorem dJ6_getChars_ba4f3_16 : decode cJ6_getChars_ba4f3 16 = .ok (.ifCond .ne 6, 3) := by decide +kernel
theorem dJ6_getChars_ba4f3_19 : decode cJ6_getChars_ba4f3 19 = .ok (.iload_n 0, 1) := by decide +kernel
theorem dJ6_getChars_ba4f3_20 : decode cJ6_getChars_ba4f3 20 = .ok (.ineg, 1) := by decide +kernel
theorem dJ6_getChars_ba4f3_21 : decode cJ6_getChars_ba4f3 21 = .ok (.istore_n 0, 1) := by decide +kernel
theorem dJ6_getChars_ba4f3_22 : decode cJ6_getChars_ba4f3 22 = .ok (.iload_n 0, 1) := by decide +kernel
theorem dJ6_getChars_ba4f3_23 : decode cJ6_getChars_ba4f3 23 = .ok (.bipush (-100), 2) := by decide +kernel
theorem dJ6_getChars_ba4f3_25 : decode cJ6_getChars_ba4f3 25 = .ok (.if_icmp .gt 47, 3) := by decide +kernel
theorem dJ6_getChars_ba4f3_28 : decode cJ6_getChars_ba4f3 28 = .ok (.iload_n 0, 1) := by decide +kernel
theorem dJ6_getChars_ba4f3_29 : decode cJ6_getChars_ba4f3 29 = .ok (.bipush 100, 2) := by decide +kernel
theorem dJ6_getChars_ba4f3_31 : decode cJ6_getChars_ba4f3 31 = .ok (.idiv, 1) := by decide +kernel
theorem dJ6_getChars_ba4f3_32 : decode cJ6_getChars_ba4f3 32 = .ok (.istore_n 3, 1) := by decide +kernel
theorem dJ6_getChars_ba4f3_33 : decode cJ6_getChars_ba4f3 33 = .ok (.iload_n 3, 1) := by decide +kernel
theorem dJ6_getChars_ba4f3_34 : decode cJ6_getChars_ba4f3 34 = .ok (.bipush 100, 2) := by decide +kernel
theorem dJ6_getChars_ba4f3_36 : decode cJ6_getChars_ba4f3 36 = .ok (.imul, 1) := by decide +kernel
theorem dJ6_getChars_ba4f3_37 : decode cJ6_getChars_ba4f3 37 = .ok (.iload_n 0, 1) := by decide +kernel
theorem dJ6_getChars_ba4f3_38 : decode cJ6_getChars_ba4f3 38 = .ok (.isub, 1) := by decide +kernel
theorem dJ6_getChars_ba4f3_39 : decode cJ6_getChars_ba4f3 39 = .ok (.istore 4, 2) := by decide +kernel
theorem dJ6_getChars_ba4f3_41 : decode cJ6_getChars_ba4f3 41 = .ok (.iload_n 3, 1) := by decide +kernel
theorem dJ6_getChars_ba4f3_42 : decode cJ6_getChars_ba4f3 42 = .ok (.istore_n 0, 1) := by decide +kernel
theorem dJ6_getChars_ba4f3_43 : decode cJ6_getChars_ba4f3 43 = .ok (.aload_n 2, 1) := by decide +kernel
theorem dJ6_getChars_ba4f3_44 : decode cJ6_getChars_ba4f3 44 = .ok (.iinc 5 (-1), 3) := by decide +kernel
theorem dJ6_getChars_ba4f3_47 : decode cJ6_getChars_ba4f3 47 = .ok (.iload 5, 2) := by decide +kernel
theorem dJ6_getChars_ba4f3_49 : decode cJ6_getChars_ba4f3 49 = .ok (.getstatic 83, 3) := by decide +kernel
theorem dJ6_getChars_ba4f3_52 : decode cJ6_getChars_ba4f3 52 = .ok (.iload 4, 2) := by decide +kernel
theorem dJ6_getChars_ba4f3_54 : decode cJ6_getChars_ba4f3 54 = .ok (.baload, 1) := by decide +kernel
theorem dJ6_getChars_ba4f3_55 : decode cJ6_getChars_ba4f3 55 = .ok (.bastore, 1) := by decide +kernel
theorem dJ6_getChars_ba4f3_56 : decode cJ6_getChars_ba4f3 56 = .ok (.aload_n 2, 1) := by decide +kernel
theorem dJ6_getChars_ba4f3_57 : decode cJ6_getChars_ba4f3 57 = .ok (.iinc 5 (-1), 3) := by decide +kernel
theorem dJ6_getChars_ba4f3_60 : decode cJ6_getChars_ba4f3 60 = .ok (.iload 5, 2) := by decide +kernel
theorem dJ6_getChars_ba4f3_62 : decode cJ6_getChars_ba4f3 62 = .ok (.getstatic 87, 3) := by decide +kernel
theorem dJ6_getChars_ba4f3_65 : decode cJ6_getChars_ba4f3 65 = .ok (.iload 4, 2) := by decide +kernel
theorem dJ6_getChars_ba4f3_67 : decode cJ6_getChars_ba4f3 67 = .ok (.baload, 1) := by decide +kernel
theorem dJ6_getChars_ba4f3_68 : decode cJ6_getChars_ba4f3 68 = .ok (.bastore, 1) := by decide +kernel
theorem dJ6_getChars_ba4f3_69 : decode cJ6_getChars_ba4f3 69 = .ok (.goto (-47), 3) := by decide +kernel
theorem dJ6_getChars_ba4f3_72 : decode cJ6_getChars_ba4f3 72 = .ok (.aload_n 2, 1) := by decide +kernel
theorem dJ6_getChars_ba4f3_73 : decode cJ6_getChars_ba4f3 73 = .ok (.iinc 5 (-1), 3) := by decide +kernel
theorem dJ6_getChars_ba4f3_76 : decode cJ6_getChars_ba4f3 76 = .ok (.iload 5, 2) := by decide +kernel
theorem dJ6_getChars_ba4f3_78 : decode cJ6_getChars_ba4f3 78 = .ok (.getstatic 83, 3) := by decide +kernel
theorem dJ6_getChars_ba4f3_81 : decode cJ6_getChars_ba4f3 81 = .ok (.iload_n 0, 1) := by decide +kernel
theorem dJ6_getChars_ba4f3_82 : decode cJ6_getChars_ba4f3 82 = .ok (.ineg, 1) := by decide +kernel
theorem dJ6_getChars_ba4f3_83 : decode cJ6_getChars_ba4f3 83 = .ok (.baload, 1) := by decide +kernel
theorem dJ6_getChars_ba4f3_84 : decode cJ6_getChars_ba4f3 84 = .ok (.bastore, 1) := by decide +kernel
theorem dJ6_getChars_ba4f3_85 : decode cJ6_getChars_ba4f3 85 = .ok (.iload_n 0, 1) := by decide +kernel
theorem dJ6_getChars_ba4f3_86 : decode cJ6_getChars_ba4f3 86 = .ok (.bipush (-9), 2) := by decide +kernel
theorem dJ6_getChars_ba4f3_88 : decode cJ6_getChars_ba4f3 88 = .ok (.if_icmp .ge 16, 3) := by decide +kernel
theorem dJ6_getChars_ba4f3_91 : decode cJ6_getChars_ba4f3 91 = .ok (.aload_n 2, 1) := by decide +kernel
theorem dJ6_getChars_ba4f3_92 : decode cJ6_getChars_ba4f3 92 = .ok (.iinc 5 (-1), 3) := by decide +kernel
theorem dJ6_getChars_ba4f3_95 : decode cJ6_getChars_ba4f3 95 = .ok (.iload 5, 2) := by decide +kernel
theorem dJ6_getChars_ba4f3_97 : decode cJ6_getChars_ba4f3 97 = .ok (.getstatic 87, 3) := by decide +kernel
theorem dJ6_getChars_ba4f3_100 : decode cJ6_getChars_ba4f3 100 = .ok (.iload_n 0, 1) := by decide +kernel
theorem dJ6_getChars_ba4f3_101 : decode cJ6_getChars_ba4f3 101 = .ok (.ineg, 1) := by decide +kernel
theorem dJ6_getChars_ba4f3_102 : decode cJ6_getChars_ba4f3 102 = .ok (.baload, 1) := by decide +kernel
theorem dJ6_getChars_ba4f3_103 : decode cJ6_getChars_ba4f3 103 = .ok (.bastore, 1) := by decide +kernel
theorem dJ6_getChars_ba4f3_104 : decode cJ6_getChars_ba4f3 104 = .ok (.iload 6, 2) := by decide +kernel
theorem dJ6_getChars_ba4f3_106 : decode cJ6_getChars_ba4f3 106 = .ok (.ifCond .eq 12, 3) := by decide +kernel
theorem dJ6_getChars_ba4f3_109 : decode cJ6_getChars_ba4f3 109 = .ok (.aload_n 2, 1) := by decide +kernel
theorem dJ6_getChars_ba4f3_110 : decode cJ6_getChars_ba4f3 110 = .ok (.iinc 5 (-1), 3) := by decide +kernel
theorem dJ6_getChars_ba4f3_113 : decode cJ6_getChars_ba4f3 113 = .ok (.iload 5, 2) := by decide +kernel
theorem dJ6_getChars_ba4f3_115 : decode cJ6_getChars_ba4f3 115 = .ok (.bipush 45, 2) := by decide +kernel
theorem dJ6_getChars_ba4f3_117 : decode cJ6_getChars_ba4f3 117 = .ok (.bastore, 1) := by decide +kernel
theorem dJ6_getChars_ba4f3_118 : decode cJ6_getChars_ba4f3 118 = .ok (.iload 5, 2) := by decide +kernel
theorem dJ6_getChars_ba4f3_120 : decode cJ6_getChars_ba4f3 120 = .ok (.ireturn, 1) := by decide +kernel
theorem dJ6_stringSize_0f7a4_0 : decode cJ6_stringSize_0f7a4 0 = .ok (.iconst 1, 1) := by decide +kernel
theorem dJ6_stringSize_0f7a4_1 : decode cJ6_stringSize_0f7a4 1 = .ok (.istore_n 1, 1) := by decide +kernel
theorem dJ6_stringSize_0f7a4_2 : decode cJ6_stringSize_0f7a4 2 = .ok (.iload_n 0, 1) := by decide +kernel
theorem dJ6_stringSize_0f7a4_3 : decode cJ6_stringSize_0f7a4 3 = .ok (.ifCond .lt 8, 3) := by decide +kernel
theorem dJ6_stringSize_0f7a4_6 : decode cJ6_stringSize_0f7a4 6 = .ok (.iconst 0, 1) := by decide +kernel
theorem dJ6_stringSize_0f7a4_7 : decode cJ6_stringSize_0f7a4 7 = .ok (.istore_n 1, 1) := by decide +kernel
theorem dJ6_stringSize_0f7a4_8 : decode cJ6_stringSize_0f7a4 8 = .ok (.iload_n 0, 1) := by decide +kernel
theorem dJ6_stringSize_0f7a4_9 : decode cJ6_stringSize_0f7a4 9 = .ok (.ineg, 1) := by decide +kernel
theorem dJ6_stringSize_0f7a4_10 : decode cJ6_stringSize_0f7a4 10 = .ok (.istore_n 0, 1) := by decide +kernel
theorem dJ6_stringSize_0f7a4_11 : decode cJ6_stringSize_0f7a4 11 = .ok (.bipush (-10), 2) := by decide +kernel
theorem dJ6_stringSize_0f7a4_13 : decode cJ6_stringSize_0f7a4 13 = .ok (.istore_n 2, 1) := by decide +kernel
theorem dJ6_stringSize_0f7a4_14 : decode cJ6_stringSize_0f7a4 14 = .ok (.iconst 1, 1) := by decide +kernel
theorem dJ6_stringSize_0f7a4_15 : decode cJ6_stringSize_0f7a4 15 = .ok (.istore_n 3, 1) := by decide +kernel
theorem dJ6_stringSize_0f7a4_16 : decode cJ6_stringSize_0f7a4 16 = .ok (.iload_n 3, 1) := by decide +kernel
theorem dJ6_stringSize_0f7a4_17 : decode cJ6_stringSize_0f7a4 17 = .ok (.bipush 10, 2) := by decide +kernel
theorem dJ6_stringSize_0f7a4_19 : decode cJ6_stringSize_0f7a4 19 = .ok (.if_icmp .ge 23, 3) := by decide +kernel
theorem dJ6_stringSize_0f7a4_22 : decode cJ6_stringSize_0f7a4 22 = .ok (.iload_n 0, 1) := by decide +kernel
theorem dJ6_stringSize_0f7a4_23 : decode cJ6_stringSize_0f7a4 23 = .ok (.iload_n 2, 1) := by decide +kernel
theorem dJ6_stringSize_0f7a4_24 : decode cJ6_stringSize_0f7a4 24 = .ok (.if_icmp .le 7, 3) := by decide +kernel
theorem dJ6_stringSize_0f7a4_27 : decode cJ6_stringSize_0f7a4 27 = .ok (.iload_n 3, 1) := by decide +kernel
theorem dJ6_stringSize_0f7a4_28 : decode cJ6_stringSize_0f7a4 28 = .ok (.iload_n 1, 1) := by decide +kernel
theorem dJ6_stringSize_0f7a4_29 : decode cJ6_stringSize_0f7a4 29 = .ok (.iadd, 1) := by decide +kernel
theorem dJ6_stringSize_0f7a4_30 : decode cJ6_stringSize_0f7a4 30 = .ok (.ireturn, 1) := by decide +kernel
theorem dJ6_stringSize_0f7a4_31 : decode cJ6_stringSize_0f7a4 31 = .ok (.bipush 10, 2) := by decide +kernel
theorem dJ6_stringSize_0f7a4_33 : decode cJ6_stringSize_0f7a4 33 = .ok (.iload_n 2, 1) := by decide +kernel
theorem dJ6_stringSize_0f7a4_34 : decode cJ6_stringSize_0f7a4 34 = .ok (.imul, 1) := by decide +kernel
theorem dJ6_stringSize_0f7a4_35 : decode cJ6_stringSize_0f7a4 35 = .ok (.istore_n 2, 1) := by decide +kernel
theorem dJ6_stringSize_0f7a4_36 : decode cJ6_stringSize_0f7a4 36 = .ok (.iinc 3 1, 3) := by decide +kernel
theorem dJ6_stringSize_0f7a4_39 : decode cJ6_stringSize_0f7a4 39 = .ok (.goto (-23), 3) := by decide +kernel
theorem dJ6_stringSize_0f7a4_42 : decode cJ6_stringSize_0f7a4 42 = .ok (.bipush 10, 2) := by decide +kernel
theorem dJ6_stringSize_0f7a4_44 : decode cJ6_stringSize_0f7a4 44 = .ok (.iload_n 1, 1) := by decide +kernel
theorem dJ6_stringSize_0f7a4_45 : decode cJ6_stringSize_0f7a4 45 = .ok (.iadd, 1) := by decide +kernel
theorem dJ6_stringSize_0f7a4_46 : decode cJ6_stringSize_0f7a4 46 = .ok (.ireturn, 1) := by decide +kernel
theorem dJ9_max_7cf53_0 : decode cJ9_max_7cf53 0 = .ok (.iload_n 0, 1) := by decide +kernel
theorem dJ9_max_7cf53_1 : decode cJ9_max_7cf53 1 = .ok (.iload_n 1, 1) := by decide +kernel
theorem dJ9_max_7cf53_2 : decode cJ9_max_7cf53 2 = .ok (.if_icmp .lt 7, 3) := by decide +kernel
theorem dJ9_max_7cf53_5 : decode cJ9_max_7cf53 5 = .ok (.iload_n 0, 1) := by decide +kernel
theorem dJ9_max_7cf53_6 : decode cJ9_max_7cf53 6 = .ok (.goto 4, 3) := by decide +kernel
theorem dJ9_max_7cf53_9 : decode cJ9_max_7cf53 9 = .ok (.iload_n 1, 1) := by decide +kernel
theorem dJ9_max_7cf53_10 : decode cJ9_max_7cf53 10 = .ok (.ireturn, 1) := by decide +kernel
theorem dJ9_min_7cf53_0 : decode cJ9_min_7cf53 0 = .ok (.iload_n 0, 1) := by decide +kernel
theorem dJ9_min_7cf53_1 : decode cJ9_min_7cf53 1 = .ok (.iload_n 1, 1) := by decide +kernel
theorem dJ9_min_7cf53_2 : decode cJ9_min_7cf53 2 = .ok (.if_icmp .gt 7, 3) := by decide +kernel
theorem dJ9_min_7cf53_5 : decode cJ9_min_7cf53 5 = .ok (.iload_n 0, 1) := by decide +kernel
theorem dJ9_min_7cf53_6 : decode cJ9_min_7cf53 6 = .ok (.goto 4, 3) := by decide +kernel
theorem dJ9_min_7cf53_9 : decode cJ9_min_7cf53 9 = .ok (.iload_n 1, 1) := by decide +kernel
theorem dJ9_min_7cf53_10 : decode cJ9_min_7cf53 10 = .ok (.ireturn, 1) := by decide +kernel
theorem dJ0_init_81219_0 : decode cJ0_init_81219 0 = .ok (.aload_n 0, 1) := by decide +kernel
theorem dJ0_init_81219_1 : decode cJ0_init_81219 1 = .ok (.aload_n 1, 1) := by decide +kernel
theorem dJ0_init_81219_2 : decode cJ0_init_81219 2 = .ok (.aconst_null, 1) := by decide +kernel
theorem dJ0_init_81219_3 : decode cJ0_init_81219 3 = .ok (.invokespecial 489, 3) := by decide +kernel
theorem dJ0_init_81219_6 : decode cJ0_init_81219 6 = .ok (.return_, 1) := by decide +kernel
theorem dJ0_length_8abf5_0 : decode cJ0_length_8abf5 0 = .ok (.aload_n 0, 1) := by decide +kernel
theorem dJ0_length_8abf5_1 : decode cJ0_length_8abf5 1 = .ok (.getfield 9, 3) := by decide +kernel
theorem dJ0_length_8abf5_4 : decode cJ0_length_8abf5 4 = .ok (.arraylength, 1) := by decide +kernel
theorem dJ0_length_8abf5_5 : decode cJ0_length_8abf5 5 = .ok (.aload_n 0, 1) := by decide +kernel
theorem dJ0_length_8abf5_6 : decode cJ0_length_8abf5 6 = .ok (.invokevirtual 335, 3) := by decide +kernel
theorem dJ0_length_8abf5_9 : decode cJ0_length_8abf5 9 = .ok (.ishr, 1) := by decide +kernel
theorem dJ0_length_8abf5_10 : decode cJ0_length_8abf5 10 = .ok (.ireturn, 1) := by decide +kernel
theorem dJ0_charAt_5068e_0 : decode cJ0_charAt_5068e 0 = .ok (.aload_n 0, 1) := by decide +kernel
theorem dJ0_charAt_5068e_1 : decode cJ0_charAt_5068e 1 = .ok (.invokevirtual 492, 3) := by decide +kernel
theorem dJ0_charAt_5068e_4 : decode cJ0_charAt_5068e 4 = .ok (.ifCond .eq 12, 3) := by decide +kernel
theorem dJ0_charAt_5068e_7 : decode cJ0_charAt_5068e 7 = .ok (.aload_n 0, 1) := by decide +kernel
theorem dJ0_charAt_5068e_8 : decode cJ0_charAt_5068e 8 = .ok (.getfield 9, 3) := by decide +kernel
theorem dJ0_charAt_5068e_11 : decode cJ0_charAt_5068e 11 = .ok (.iload_n 1, 1) := by decide +kernel
theorem dJ0_charAt_5068e_12 : decode cJ0_charAt_5068e 12 = .ok (.invokestatic 495, 3) := by decide +kernel
theorem dJ0_charAt_5068e_15 : decode cJ0_charAt_5068e 15 = .ok (.ireturn, 1) := by decide +kernel
theorem dJ0_charAt_5068e_16 : decode cJ0_charAt_5068e 16 = .ok (.aload_n 0, 1) := by decide +kernel
theorem dJ0_charAt_5068e_17 : decode cJ0_charAt_5068e 17 = .ok (.getfield 9, 3) := by decide +kernel
theorem dJ0_charAt_5068e_20 : decode cJ0_charAt_5068e 20 = .ok (.iload_n 1, 1) := by decide +kernel
theorem dJ0_charAt_5068e_21 : decode cJ0_charAt_5068e 21 = .ok (.invokestatic 498, 3) := by decide +kernel
theorem dJ0_charAt_5068e_24 : decode cJ0_charAt_5068e 24 = .ok (.ireturn, 1) := by decide +kernel
theorem dJ0_getBytes_840e7_0 : decode cJ0_getBytes_840e7 0 = .ok (.aload_n 0, 1) := by decide +kernel
theorem dJ0_getBytes_840e7_1 : decode cJ0_getBytes_840e7 1 = .ok (.invokevirtual 335, 3) := by decide +kernel
theorem dJ0_getBytes_840e7_4 : decode cJ0_getBytes_840e7 4 = .ok (.iload_n 3, 1) := by decide +kernel
theorem dJ0_getBytes_840e7_5 : decode cJ0_getBytes_840e7 5 = .ok (.if_icmp .ne 23, 3) := by decide +kernel
theorem dJ0_getBytes_840e7_8 : decode cJ0_getBytes_840e7 8 = .ok (.aload_n 0, 1) := by decide +kernel
theorem dJ0_getBytes_840e7_9 : decode cJ0_getBytes_840e7 9 = .ok (.getfield 9, 3) := by decide +kernel
theorem dJ0_getBytes_840e7_12 : decode cJ0_getBytes_840e7 12 = .ok (.iconst 0, 1) := by decide +kernel
theorem dJ0_getBytes_840e7_13 : decode cJ0_getBytes_840e7 13 = .ok (.aload_n 1, 1) := by decide +kernel
theorem dJ0_getBytes_840e7_14 : decode cJ0_getBytes_840e7 14 = .ok (.iload_n 2, 1) := by decide +kernel
theorem dJ0_getBytes_840e7_15 : decode cJ0_getBytes_840e7 15 = .ok (.iload_n 3, 1) := by decide +kernel
theorem dJ0_getBytes_840e7_16 : decode cJ0_getBytes_840e7 16 = .ok (.ishl, 1) := by decide +kernel
theorem dJ0_getBytes_840e7_17 : decode cJ0_getBytes_840e7 17 = .ok (.aload_n 0, 1) := by decide +kernel
theorem dJ0_getBytes_840e7_18 : decode cJ0_getBytes_840e7 18 = .ok (.getfield 9, 3) := by decide +kernel
theorem dJ0_getBytes_840e7_21 : decode cJ0_getBytes_840e7 21 = .ok (.arraylength, 1) := by decide +kernel
theorem dJ0_getBytes_840e7_22 : decode cJ0_getBytes_840e7 22 = .ok (.invokestatic 212, 3) := by decide +kernel
theorem dJ0_getBytes_840e7_25 : decode cJ0_getBytes_840e7 25 = .ok (.goto 18, 3) := by decide +kernel
theorem dJ0_getBytes_840e7_28 : decode cJ0_getBytes_840e7 28 = .ok (.aload_n 0, 1) := by decide +kernel
theorem dJ0_getBytes_840e7_29 : decode cJ0_getBytes_840e7 29 = .ok (.getfield 9, 3) := by decide +kernel
theorem dJ0_getBytes_840e7_32 : decode cJ0_getBytes_840e7 32 = .ok (.iconst 0, 1) := by decide +kernel
theorem dJ0_getBytes_840e7_33 : decode cJ0_getBytes_840e7 33 = .ok (.aload_n 1, 1) := by decide +kernel
theorem dJ0_getBytes_840e7_34 : decode cJ0_getBytes_840e7 34 = .ok (.iload_n 2, 1) := by decide +kernel
theorem dJ0_getBytes_840e7_35 : decode cJ0_getBytes_840e7 35 = .ok (.aload_n 0, 1) := by decide +kernel
theorem dJ0_getBytes_840e7_36 : decode cJ0_getBytes_840e7 36 = .ok (.getfield 9, 3) := by decide +kernel
theorem dJ0_getBytes_840e7_39 : decode cJ0_getBytes_840e7 39 = .ok (.arraylength, 1) := by decide +kernel
theorem dJ0_getBytes_840e7_40 : decode cJ0_getBytes_840e7 40 = .ok (.invokestatic 106, 3) := by decide +kernel
theorem dJ0_getBytes_840e7_43 : decode cJ0_getBytes_840e7 43 = .ok (.return_, 1) := by decide +kernel
theorem dJ0_init_db425_0 : decode cJ0_init_db425 0 = .ok (.aload_n 0, 1) := by decide +kernel
theorem dJ0_init_db425_1 : decode cJ0_init_db425 1 = .ok (.invokespecial 1, 3) := by decide +kernel
theorem dJ0_init_db425_4 : decode cJ0_init_db425 4 = .ok (.aload_n 1, 1) := by decide +kernel
theorem dJ0_init_db425_5 : decode cJ0_init_db425 5 = .ok (.invokevirtual 552, 3) := by decide +kernel
theorem dJ0_init_db425_8 : decode cJ0_init_db425 8 = .ok (.astore_n 3, 1) := by decide +kernel
theorem dJ0_init_db425_9 : decode cJ0_init_db425 9 = .ok (.aload_n 1, 1) := by decide +kernel
theorem dJ0_init_db425_10 : decode cJ0_init_db425 10 = .ok (.invokevirtual 549, 3) := by decide +kernel
theorem dJ0_init_db425_13 : decode cJ0_init_db425 13 = .ok (.istore 4, 2) := by decide +kernel
theorem dJ0_init_db425_15 : decode cJ0_init_db425 15 = .ok (.aload_n 1, 1) := by decide +kernel
theorem dJ0_init_db425_16 : decode cJ0_init_db425 16 = .ok (.invokevirtual 1047, 3) := by decide +kernel
theorem dJ0_init_db425_19 : decode cJ0_init_db425 19 = .ok (.ifCond .eq 22, 3) := by decide +kernel
theorem dJ0_init_db425_22 : decode cJ0_init_db425 22 = .ok (.aload_n 0, 1) := by decide +kernel
theorem dJ0_init_db425_23 : decode cJ0_init_db425 23 = .ok (.iconst 0, 1) := by decide +kernel
theorem dJ0_init_db425_24 : decode cJ0_init_db425 24 = .ok (.putfield 15, 3) := by decide +kernel
theorem dJ0_init_db425_27 : decode cJ0_init_db425 27 = .ok (.aload_n 0, 1) := by decide +kernel
theorem dJ0_init_db425_28 : decode cJ0_init_db425 28 = .ok (.aload_n 3, 1) := by decide +kernel
theorem dJ0_init_db425_29 : decode cJ0_init_db425 29 = .ok (.iconst 0, 1) := by decide +kernel
theorem dJ0_init_db425_30 : decode cJ0_init_db425 30 = .ok (.iload 4, 2) := by decide +kernel
theorem dJ0_init_db425_32 : decode cJ0_init_db425 32 = .ok (.invokestatic 54, 3) := by decide +kernel
theorem dJ0_init_db425_35 : decode cJ0_init_db425 35 = .ok (.putfield 9, 3) := by decide +kernel
theorem dJ0_init_db425_38 : decode cJ0_init_db425 38 = .ok (.goto 59, 3) := by decide +kernel
theorem dJ0_init_db425_41 : decode cJ0_init_db425 41 = .ok (.getstatic 38, 3) := by decide +kernel
theorem dJ0_init_db425_44 : decode cJ0_init_db425 44 = .ok (.ifCond .eq 35, 3) := by decide +kernel
theorem dJ0_init_db425_47 : decode cJ0_init_db425 47 = .ok (.aload_n 1, 1) := by decide +kernel
theorem dJ0_init_db425_48 : decode cJ0_init_db425 48 = .ok (.getfield 1048, 3) := by decide +kernel
theorem dJ0_init_db425_51 : decode cJ0_init_db425 51 = .ok (.ifCond .eq 28, 3) := by decide +kernel
theorem dJ0_init_db425_54 : decode cJ0_init_db425 54 = .ok (.aload_n 0, 1) := by decide +kernel
theorem dJ0_init_db425_55 : decode cJ0_init_db425 55 = .ok (.aload_n 3, 1) := by decide +kernel
theorem dJ0_init_db425_56 : decode cJ0_init_db425 56 = .ok (.iconst 0, 1) := by decide +kernel
theorem dJ0_init_db425_57 : decode cJ0_init_db425 57 = .ok (.iload 4, 2) := by decide +kernel
theorem dJ0_init_db425_59 : decode cJ0_init_db425 59 = .ok (.invokestatic 1051, 3) := by decide +kernel
theorem dJ0_init_db425_62 : decode cJ0_init_db425 62 = .ok (.putfield 9, 3) := by decide +kernel
theorem dJ0_init_db425_65 : decode cJ0_init_db425 65 = .ok (.aload_n 0, 1) := by decide +kernel
theorem dJ0_init_db425_66 : decode cJ0_init_db425 66 = .ok (.aload_n 0, 1) := by decide +kernel
theorem dJ0_init_db425_67 : decode cJ0_init_db425 67 = .ok (.getfield 9, 3) := by decide +kernel
theorem dJ0_init_db425_70 : decode cJ0_init_db425 70 = .ok (.iload 4, 2) := by decide +kernel
theorem dJ0_init_db425_72 : decode cJ0_init_db425 72 = .ok (.invokestatic 47, 3) := by decide +kernel
theorem dJ0_init_db425_75 : decode cJ0_init_db425 75 = .ok (.putfield 15, 3) := by decide +kernel
theorem dJ0_init_db425_78 : decode cJ0_init_db425 78 = .ok (.return_, 1) := by decide +kernel
theorem dJ0_init_db425_79 : decode cJ0_init_db425 79 = .ok (.aload_n 0, 1) := by decide +kernel
theorem dJ0_init_db425_80 : decode cJ0_init_db425 80 = .ok (.iconst 1, 1) := by decide +kernel
theorem dJ0_init_db425_81 : decode cJ0_init_db425 81 = .ok (.putfield 15, 3) := by decide +kernel
theorem dJ0_init_db425_84 : decode cJ0_init_db425 84 = .ok (.aload_n 0, 1) := by decide +kernel
theorem dJ0_init_db425_85 : decode cJ0_init_db425 85 = .ok (.aload_n 3, 1) := by decide +kernel
theorem dJ0_init_db425_86 : decode cJ0_init_db425 86 = .ok (.iconst 0, 1) := by decide +kernel
theorem dJ0_init_db425_87 : decode cJ0_init_db425 87 = .ok (.iload 4, 2) := by decide +kernel
theorem dJ0_init_db425_89 : decode cJ0_init_db425 89 = .ok (.iconst 1, 1) := by decide +kernel
theorem dJ0_init_db425_90 : decode cJ0_init_db425 90 = .ok (.ishl, 1) := by decide +kernel
theorem dJ0_init_db425_91 : decode cJ0_init_db425 91 = .ok (.invokestatic 54, 3) := by decide +kernel
theorem dJ0_init_db425_94 : decode cJ0_init_db425 94 = .ok (.putfield 9, 3) := by decide +kernel
theorem dJ0_init_db425_97 : decode cJ0_init_db425 97 = .ok (.return_, 1) := by decide +kernel
theorem dJ0_coder_7d493_0 : decode cJ0_coder_7d493 0 = .ok (.getstatic 38, 3) := by decide +kernel
theorem dJ0_coder_7d493_3 : decode cJ0_coder_7d493 3 = .ok (.ifCond .eq 10, 3) := by decide +kernel
theorem dJ0_coder_7d493_6 : decode cJ0_coder_7d493 6 = .ok (.aload_n 0, 1) := by decide +kernel
theorem dJ0_coder_7d493_7 : decode cJ0_coder_7d493 7 = .ok (.getfield 15, 3) := by decide +kernel
theorem dJ0_coder_7d493_10 : decode cJ0_coder_7d493 10 = .ok (.goto 4, 3) := by decide +kernel
theorem dJ0_coder_7d493_13 : decode cJ0_coder_7d493 13 = .ok (.iconst 1, 1) := by decide +kernel
theorem dJ0_coder_7d493_14 : decode cJ0_coder_7d493 14 = .ok (.ireturn, 1) := by decide +kernel
theorem dJ0_isLatin1_aae02_0 : decode cJ0_isLatin1_aae02 0 = .ok (.getstatic 38, 3) := by decide +kernel
theorem dJ0_isLatin1_aae02_3 : decode cJ0_isLatin1_aae02 3 = .ok (.ifCond .eq 14, 3) := by decide +kernel
theorem dJ0_isLatin1_aae02_6 : decode cJ0_isLatin1_aae02 6 = .ok (.aload_n 0, 1) := by decide +kernel
theorem dJ0_isLatin1_aae02_7 : decode cJ0_isLatin1_aae02 7 = .ok (.getfield 15, 3) := by decide +kernel
theorem dJ0_isLatin1_aae02_10 : decode cJ0_isLatin1_aae02 10 = .ok (.ifCond .ne 7, 3) := by decide +kernel
theorem dJ0_isLatin1_aae02_13 : decode cJ0_isLatin1_aae02 13 = .ok (.iconst 1, 1) := by decide +kernel
theorem dJ0_isLatin1_aae02_14 : decode cJ0_isLatin1_aae02 14 = .ok (.goto 4, 3) := by decide +kernel
theorem dJ0_isLatin1_aae02_17 : decode cJ0_isLatin1_aae02 17 = .ok (.iconst 0, 1) := by decide +kernel
theorem dJ0_isLatin1_aae02_18 : decode cJ0_isLatin1_aae02 18 = .ok (.ireturn, 1) := by decide +kernel
theorem dJ0_checkIndex_df160_0 : decode cJ0_checkIndex_df160 0 = .ok (.iload_n 0, 1) := by decide +kernel
theorem dJ0_checkIndex_df160_1 : decode cJ0_checkIndex_df160 1 = .ok (.iload_n 1, 1) := by decide +kernel
theorem dJ0_checkIndex_df160_2 : decode cJ0_checkIndex_df160 2 = .ok (.getstatic 1053, 3) := by decide +kernel
theorem dJ0_checkIndex_df160_5 : decode cJ0_checkIndex_df160 5 = .ok (.invokestatic 1059, 3) := by decide +kernel
theorem dJ0_checkIndex_df160_8 : decode cJ0_checkIndex_df160 8 = .ok (.pop, 1) := by decide +kernel
theorem dJ0_checkIndex_df160_9 : decode cJ0_checkIndex_df160 9 = .ok (.return_, 1) := by decide +kernel
theorem dJ0_checkBoundsOffCount_cabcc_0 : decode cJ0_checkBoundsOffCount_cabcc 0 = .ok (.iload_n 0, 1) := by decide +kernel
theorem dJ0_checkBoundsOffCount_cabcc_1 : decode cJ0_checkBoundsOffCount_cabcc 1 = .ok (.iload_n 1, 1) := by decide +kernel
theorem dJ0_checkBoundsOffCount_cabcc_2 : decode cJ0_checkBoundsOffCount_cabcc 2 = .ok (.iload_n 2, 1) := by decide +kernel
theorem dJ0_checkBoundsOffCount_cabcc_3 : decode cJ0_checkBoundsOffCount_cabcc 3 = .ok (.getstatic 1053, 3) := by decide +kernel
theorem dJ0_checkBoundsOffCount_cabcc_6 : decode cJ0_checkBoundsOffCount_cabcc 6 = .ok (.invokestatic 1065, 3) := by decide +kernel
theorem dJ0_checkBoundsOffCount_cabcc_9 : decode cJ0_checkBoundsOffCount_cabcc 9 = .ok (.ireturn, 1) := by decide +kernel
theorem dJ0_checkBoundsBeginEnd_23922_0 : decode cJ0_checkBoundsBeginEnd_23922 0 = .ok (.iload_n 0, 1) := by decide +kernel
theorem dJ0_checkBoundsBeginEnd_23922_1 : decode cJ0_checkBoundsBeginEnd_23922 1 = .ok (.iload_n 1, 1) := by decide +kernel
theorem dJ0_checkBoundsBeginEnd_23922_2 : decode cJ0_checkBoundsBeginEnd_23922 2 = .ok (.iload_n 2, 1) := by decide +kernel
theorem dJ0_checkBoundsBeginEnd_23922_3 : decode cJ0_checkBoundsBeginEnd_23922 3 = .ok (.getstatic 1053, 3) := by decide +kernel
theorem dJ0_checkBoundsBeginEnd_23922_6 : decode cJ0_checkBoundsBeginEnd_23922 6 = .ok (.invokestatic 1062, 3) := by decide +kernel
theorem dJ0_checkBoundsBeginEnd_23922_9 : decode cJ0_checkBoundsBeginEnd_23922 9 = .ok (.pop, 1) := by decide +kernel
theorem dJ0_checkBoundsBeginEnd_23922_10 : decode cJ0_checkBoundsBeginEnd_23922 10 = .ok (.return_, 1) := by decide +kernel
theorem dJ4_init_da8c8_0 : decode cJ4_init_da8c8 0 = .ok (.aload_n 0, 1) := by decide +kernel
theorem dJ4_init_da8c8_1 : decode cJ4_init_da8c8 1 = .ok (.bipush 16, 2) := by decide +kernel
theorem dJ4_init_da8c8_3 : decode cJ4_init_da8c8 3 = .ok (.invokespecial 1, 3) := by decide +kernel
theorem dJ4_init_da8c8_6 : decode cJ4_init_da8c8 6 = .ok (.return_, 1) := by decide +kernel
theorem dJ4_append_15ec4_0 : decode cJ4_append_15ec4 0 = .ok (.aload_n 0, 1) := by decide +kernel
theorem dJ4_append_15ec4_1 : decode cJ4_append_15ec4 1 = .ok (.aload_n 1, 1) := by decide +kernel
theorem dJ4_append_15ec4_2 : decode cJ4_append_15ec4 2 = .ok (.invokespecial 29, 3) := by decide +kernel
theorem dJ4_append_15ec4_5 : decode cJ4_append_15ec4 5 = .ok (.pop, 1) := by decide +kernel
theorem dJ4_append_15ec4_6 : decode cJ4_append_15ec4 6 = .ok (.aload_n 0, 1) := by decide +kernel
theorem dJ4_append_15ec4_7 : decode cJ4_append_15ec4 7 = .ok (.areturn, 1) := by decide +kernel
theorem dJ4_append_cf468_0 : decode cJ4_append_cf468 0 = .ok (.aload_n 0, 1) := by decide +kernel
theorem dJ4_append_cf468_1 : decode cJ4_append_cf468 1 = .ok (.iload_n 1, 1) := by decide +kernel
theorem dJ4_append_cf468_2 : decode cJ4_append_cf468 2 = .ok (.invokespecial 50, 3) := by decide +kernel
theorem dJ4_append_cf468_5 : decode cJ4_append_cf468 5 = .ok (.pop, 1) := by decide +kernel
theorem dJ4_append_cf468_6 : decode cJ4_append_cf468 6 = .ok (.aload_n 0, 1) := by decide +kernel
theorem dJ4_append_cf468_7 : decode cJ4_append_cf468 7 = .ok (.areturn, 1) := by decide +kernel
theorem dJ4_append_bf812_0 : decode cJ4_append_bf812 0 = .ok (.aload_n 0, 1) := by decide +kernel
theorem dJ4_append_bf812_1 : decode cJ4_append_bf812 1 = .ok (.iload_n 1, 1) := by decide +kernel
theorem dJ4_append_bf812_2 : decode cJ4_append_bf812 2 = .ok (.invokespecial 53, 3) := by decide +kernel
theorem dJ4_append_bf812_5 : decode cJ4_append_bf812 5 = .ok (.pop, 1) := by decide +kernel
theorem dJ4_append_bf812_6 : decode cJ4_append_bf812 6 = .ok (.aload_n 0, 1) := by decide +kernel
theorem dJ4_append_bf812_7 : decode cJ4_append_bf812 7 = .ok (.areturn, 1) := by decide +kernel
theorem dJ4_toString_0e30d_0 : decode cJ4_toString_0e30d 0 = .ok (.new 18, 3) := by decide +kernel
theorem dJ4_toString_0e30d_3 : decode cJ4_toString_0e30d 3 = .ok (.dup, 1) := by decide +kernel
theorem dJ4_toString_0e30d_4 : decode cJ4_toString_0e30d 4 = .ok (.aload_n 0, 1) := by decide +kernel
theorem dJ4_toString_0e30d_5 : decode cJ4_toString_0e30d 5 = .ok (.invokespecial 137, 3) := by decide +kernel
theorem dJ4_toString_0e30d_8 : decode cJ4_toString_0e30d 8 = .ok (.areturn, 1) := by decide +kernel
theorem dJ4_length_8abf5_0 : decode cJ4_length_8abf5 0 = .ok (.aload_n 0, 1) := by decide +kernel
theorem dJ4_length_8abf5_1 : decode cJ4_length_8abf5 1 = .ok (.invokespecial 343, 3) := by decide +kernel
theorem dJ4_length_8abf5_4 : decode cJ4_length_8abf5 4 = .ok (.ireturn, 1) := by decide +kernel
theorem dJ1_charAt_3b067_0 : decode cJ1_charAt_3b067 0 = .ok (.iload_n 1, 1) := by decide +kernel
theorem dJ1_charAt_3b067_1 : decode cJ1_charAt_3b067 1 = .ok (.aload_n 0, 1) := by decide +kernel
theorem dJ1_charAt_3b067_2 : decode cJ1_charAt_3b067 2 = .ok (.arraylength, 1) := by decide +kernel
theorem dJ1_charAt_3b067_3 : decode cJ1_charAt_3b067 3 = .ok (.invokestatic 9, 3) := by decide +kernel
theorem dJ1_charAt_3b067_6 : decode cJ1_charAt_3b067 6 = .ok (.aload_n 0, 1) := by decide +kernel
theorem dJ1_charAt_3b067_7 : decode cJ1_charAt_3b067 7 = .ok (.iload_n 1, 1) := by decide +kernel
theorem dJ1_charAt_3b067_8 : decode cJ1_charAt_3b067 8 = .ok (.baload, 1) := by decide +kernel
theorem dJ1_charAt_3b067_9 : decode cJ1_charAt_3b067 9 = .ok (.sipush 255, 3) := by decide +kernel
theorem dJ1_charAt_3b067_12 : decode cJ1_charAt_3b067 12 = .ok (.iand, 1) := by decide +kernel
theorem dJ1_charAt_3b067_13 : decode cJ1_charAt_3b067 13 = .ok (.i2c, 1) := by decide +kernel
theorem dJ1_charAt_3b067_14 : decode cJ1_charAt_3b067 14 = .ok (.ireturn, 1) := by decide +kernel
theorem dJ1_canEncode_fc78d_0 : decode cJ1_canEncode_fc78d 0 = .ok (.iload_n 0, 1) := by decide +kernel
theorem dJ1_canEncode_fc78d_1 : decode cJ1_canEncode_fc78d 1 = .ok (.sipush 255, 3) := by decide +kernel
theorem dJ1_canEncode_fc78d_4 : decode cJ1_canEncode_fc78d 4 = .ok (.if_icmp .gt 7, 3) := by decide +kernel
theorem dJ1_canEncode_fc78d_7 : decode cJ1_canEncode_fc78d 7 = .ok (.iconst 1, 1) := by decide +kernel
theorem dJ1_canEncode_fc78d_8 : decode cJ1_canEncode_fc78d 8 = .ok (.goto 4, 3) := by decide +kernel
theorem dJ1_canEncode_fc78d_11 : decode cJ1_canEncode_fc78d 11 = .ok (.iconst 0, 1) := by decide +kernel
theorem dJ1_canEncode_fc78d_12 : decode cJ1_canEncode_fc78d 12 = .ok (.ireturn, 1) := by decide +kernel
theorem dJ1_inflate_0e8fd_0 : decode cJ1_inflate_0e8fd 0 = .ok (.aload_n 0, 1) := by decide +kernel
theorem dJ1_inflate_0e8fd_1 : decode cJ1_inflate_0e8fd 1 = .ok (.iload_n 1, 1) := by decide +kernel
theorem dJ1_inflate_0e8fd_2 : decode cJ1_inflate_0e8fd 2 = .ok (.aload_n 2, 1) := by decide +kernel
theorem dJ1_inflate_0e8fd_3 : decode cJ1_inflate_0e8fd 3 = .ok (.iload_n 3, 1) := by decide +kernel
theorem dJ1_inflate_0e8fd_4 : decode cJ1_inflate_0e8fd 4 = .ok (.iload 4, 2) := by decide +kernel
theorem dJ1_inflate_0e8fd_6 : decode cJ1_inflate_0e8fd 6 = .ok (.invokestatic 240, 3) := by decide +kernel
theorem dJ1_inflate_0e8fd_9 : decode cJ1_inflate_0e8fd 9 = .ok (.return_, 1) := by decide +kernel
theorem dJ2_newBytesFor_77867_0 : decode cJ2_newBytesFor_77867 0 = .ok (.iload_n 0, 1) := by decide +kernel
theorem dJ2_newBytesFor_77867_1 : decode cJ2_newBytesFor_77867 1 = .ok (.invokestatic 11, 3) := by decide +kernel
theorem dJ2_newBytesFor_77867_4 : decode cJ2_newBytesFor_77867 4 = .ok (.newarray .byte, 2) := by decide +kernel
theorem dJ2_newBytesFor_77867_6 : decode cJ2_newBytesFor_77867 6 = .ok (.areturn, 1) := by decide +kernel
theorem dJ2_newBytesLength_0f7a4_0 : decode cJ2_newBytesLength_0f7a4 0 = .ok (.iload_n 0, 1) := by decide +kernel
theorem dJ2_newBytesLength_0f7a4_1 : decode cJ2_newBytesLength_0f7a4 1 = .ok (.ifCond .ge 11, 3) := by decide +kernel
theorem dJ2_newBytesLength_0f7a4_4 : decode cJ2_newBytesLength_0f7a4 4 = .ok (.new 17, 3) := by decide +kernel
theorem dJ2_newBytesLength_0f7a4_7 : decode cJ2_newBytesLength_0f7a4 7 = .ok (.dup, 1) := by decide +kernel
theorem dJ2_newBytesLength_0f7a4_8 : decode cJ2_newBytesLength_0f7a4 8 = .ok (.invokespecial 19, 3) := by decide +kernel
theorem dJ2_newBytesLength_0f7a4_11 : decode cJ2_newBytesLength_0f7a4 11 = .ok (.athrow, 1) := by decide +kernel
theorem dJ2_newBytesLength_0f7a4_12 : decode cJ2_newBytesLength_0f7a4 12 = .ok (.iload_n 0, 1) := by decide +kernel
theorem dJ2_newBytesLength_0f7a4_13 : decode cJ2_newBytesLength_0f7a4 13 = .ok (.ldc 20, 2) := by decide +kernel
theorem dJ2_newBytesLength_0f7a4_15 : decode cJ2_newBytesLength_0f7a4 15 = .ok (.if_icmp .lt 40, 3) := by decide +kernel
theorem dJ2_newBytesLength_0f7a4_18 : decode cJ2_newBytesLength_0f7a4 18 = .ok (.new 21, 3) := by decide +kernel
theorem dJ2_newBytesLength_0f7a4_21 : decode cJ2_newBytesLength_0f7a4 21 = .ok (.dup, 1) := by decide +kernel
theorem dJ2_newBytesLength_0f7a4_22 : decode cJ2_newBytesLength_0f7a4 22 = .ok (.new 23, 3) := by decide +kernel
theorem dJ2_newBytesLength_0f7a4_25 : decode cJ2_newBytesLength_0f7a4 25 = .ok (.dup, 1) := by decide +kernel
theorem dJ2_newBytesLength_0f7a4_26 : decode cJ2_newBytesLength_0f7a4 26 = .ok (.invokespecial 25, 3) := by decide +kernel
theorem dJ2_newBytesLength_0f7a4_29 : decode cJ2_newBytesLength_0f7a4 29 = .ok (.ldc 26, 2) := by decide +kernel
theorem dJ2_newBytesLength_0f7a4_31 : decode cJ2_newBytesLength_0f7a4 31 = .ok (.invokevirtual 28, 3) := by decide +kernel
theorem dJ2_newBytesLength_0f7a4_34 : decode cJ2_newBytesLength_0f7a4 34 = .ok (.iload_n 0, 1) := by decide +kernel
theorem dJ2_newBytesLength_0f7a4_35 : decode cJ2_newBytesLength_0f7a4 35 = .ok (.invokevirtual 32, 3) := by decide +kernel
theorem dJ2_newBytesLength_0f7a4_38 : decode cJ2_newBytesLength_0f7a4 38 = .ok (.ldc 35, 2) := by decide +kernel
theorem dJ2_newBytesLength_0f7a4_40 : decode cJ2_newBytesLength_0f7a4 40 = .ok (.invokevirtual 28, 3) := by decide +kernel
theorem dJ2_newBytesLength_0f7a4_43 : decode cJ2_newBytesLength_0f7a4 43 = .ok (.ldc 20, 2) := by decide +kernel
theorem dJ2_newBytesLength_0f7a4_45 : decode cJ2_newBytesLength_0f7a4 45 = .ok (.invokevirtual 32, 3) := by decide +kernel
theorem dJ2_newBytesLength_0f7a4_48 : decode cJ2_newBytesLength_0f7a4 48 = .ok (.invokevirtual 37, 3) := by decide +kernel
theorem dJ2_newBytesLength_0f7a4_51 : decode cJ2_newBytesLength_0f7a4 51 = .ok (.invokespecial 41, 3) := by decide +kernel
theorem dJ2_newBytesLength_0f7a4_54 : decode cJ2_newBytesLength_0f7a4 54 = .ok (.athrow, 1) := by decide +kernel
theorem dJ2_newBytesLength_0f7a4_55 : decode cJ2_newBytesLength_0f7a4 55 = .ok (.iload_n 0, 1) := by decide +kernel
theorem dJ2_newBytesLength_0f7a4_56 : decode cJ2_newBytesLength_0f7a4 56 = .ok (.iconst 1, 1) := by decide +kernel
theorem dJ2_newBytesLength_0f7a4_57 : decode cJ2_newBytesLength_0f7a4 57 = .ok (.ishl, 1) := by decide +kernel
theorem dJ2_newBytesLength_0f7a4_58 : decode cJ2_newBytesLength_0f7a4 58 = .ok (.ireturn, 1) := by decide +kernel
theorem dJ2_putChar_b72d1_0 : decode cJ2_putChar_b72d1 0 = .ok (.getstatic 44, 3) := by decide +kernel
theorem dJ2_putChar_b72d1_3 : decode cJ2_putChar_b72d1 3 = .ok (.ifCond .ne 25, 3) := by decide +kernel
theorem dJ2_putChar_b72d1_6 : decode cJ2_putChar_b72d1 6 = .ok (.iload_n 1, 1) := by decide +kernel
theorem dJ2_putChar_b72d1_7 : decode cJ2_putChar_b72d1 7 = .ok (.ifCond .lt 11, 3) := by decide +kernel
theorem dJ2_putChar_b72d1_10 : decode cJ2_putChar_b72d1 10 = .ok (.iload_n 1, 1) := by decide +kernel
theorem dJ2_putChar_b72d1_11 : decode cJ2_putChar_b72d1 11 = .ok (.aload_n 0, 1) := by decide +kernel
theorem dJ2_putChar_b72d1_12 : decode cJ2_putChar_b72d1 12 = .ok (.invokestatic 48, 3) := by decide +kernel
theorem dJ2_putChar_b72d1_15 : decode cJ2_putChar_b72d1 15 = .ok (.if_icmp .lt 13, 3) := by decide +kernel
theorem dJ2_putChar_b72d1_18 : decode cJ2_putChar_b72d1 18 = .ok (.new 52, 3) := by decide +kernel
theorem dJ2_putChar_b72d1_21 : decode cJ2_putChar_b72d1 21 = .ok (.dup, 1) := by decide +kernel
theorem dJ2_putChar_b72d1_22 : decode cJ2_putChar_b72d1 22 = .ok (.ldc 54, 2) := by decide +kernel
theorem dJ2_putChar_b72d1_24 : decode cJ2_putChar_b72d1 24 = .ok (.invokespecial 56, 3) := by decide +kernel
theorem dJ2_putChar_b72d1_27 : decode cJ2_putChar_b72d1 27 = .ok (.athrow, 1) := by decide +kernel
theorem dJ2_putChar_b72d1_28 : decode cJ2_putChar_b72d1 28 = .ok (.iload_n 1, 1) := by decide +kernel
theorem dJ2_putChar_b72d1_29 : decode cJ2_putChar_b72d1 29 = .ok (.iconst 1, 1) := by decide +kernel
theorem dJ2_putChar_b72d1_30 : decode cJ2_putChar_b72d1 30 = .ok (.ishl, 1) := by decide +kernel
theorem dJ2_putChar_b72d1_31 : decode cJ2_putChar_b72d1 31 = .ok (.istore_n 1, 1) := by decide +kernel
theorem dJ2_putChar_b72d1_32 : decode cJ2_putChar_b72d1 32 = .ok (.aload_n 0, 1) := by decide +kernel
theorem dJ2_putChar_b72d1_33 : decode cJ2_putChar_b72d1 33 = .ok (.iload_n 1, 1) := by decide +kernel
theorem dJ2_putChar_b72d1_34 : decode cJ2_putChar_b72d1 34 = .ok (.iinc 1 1, 3) := by decide +kernel
theorem dJ2_putChar_b72d1_37 : decode cJ2_putChar_b72d1 37 = .ok (.iload_n 2, 1) := by decide +kernel
theorem dJ2_putChar_b72d1_38 : decode cJ2_putChar_b72d1 38 = .ok (.getstatic 59, 3) := by decide +kernel
theorem dJ2_putChar_b72d1_41 : decode cJ2_putChar_b72d1 41 = .ok (.ishr, 1) := by decide +kernel
theorem dJ2_putChar_b72d1_42 : decode cJ2_putChar_b72d1 42 = .ok (.i2b, 1) := by decide +kernel
theorem dJ2_putChar_b72d1_43 : decode cJ2_putChar_b72d1 43 = .ok (.bastore, 1) := by decide +kernel
theorem dJ2_putChar_b72d1_44 : decode cJ2_putChar_b72d1 44 = .ok (.aload_n 0, 1) := by decide +kernel
theorem dJ2_putChar_b72d1_45 : decode cJ2_putChar_b72d1 45 = .ok (.iload_n 1, 1) := by decide +kernel
theorem dJ2_putChar_b72d1_46 : decode cJ2_putChar_b72d1 46 = .ok (.iload_n 2, 1) := by decide +kernel
theorem dJ2_putChar_b72d1_47 : decode cJ2_putChar_b72d1 47 = .ok (.getstatic 63, 3) := by decide +kernel
theorem dJ2_putChar_b72d1_50 : decode cJ2_putChar_b72d1 50 = .ok (.ishr, 1) := by decide +kernel
theorem dJ2_putChar_b72d1_51 : decode cJ2_putChar_b72d1 51 = .ok (.i2b, 1) := by decide +kernel
theorem dJ2_putChar_b72d1_52 : decode cJ2_putChar_b72d1 52 = .ok (.bastore, 1) := by decide +kernel
theorem dJ2_putChar_b72d1_53 : decode cJ2_putChar_b72d1 53 = .ok (.return_, 1) := by decide +kernel
theorem dJ2_getChar_3b067_0 : decode cJ2_getChar_3b067 0 = .ok (.getstatic 44, 3) := by decide +kernel
theorem dJ2_getChar_3b067_3 : decode cJ2_getChar_3b067 3 = .ok (.ifCond .ne 25, 3) := by decide +kernel
theorem dJ2_getChar_3b067_6 : decode cJ2_getChar_3b067 6 = .ok (.iload_n 1, 1) := by decide +kernel
theorem dJ2_getChar_3b067_7 : decode cJ2_getChar_3b067 7 = .ok (.ifCond .lt 11, 3) := by decide +kernel
theorem dJ2_getChar_3b067_10 : decode cJ2_getChar_3b067 10 = .ok (.iload_n 1, 1) := by decide +kernel
theorem dJ2_getChar_3b067_11 : decode cJ2_getChar_3b067 11 = .ok (.aload_n 0, 1) := by decide +kernel
theorem dJ2_getChar_3b067_12 : decode cJ2_getChar_3b067 12 = .ok (.invokestatic 48, 3) := by decide +kernel
theorem dJ2_getChar_3b067_15 : decode cJ2_getChar_3b067 15 = .ok (.if_icmp .lt 13, 3) := by decide +kernel
theorem dJ2_getChar_3b067_18 : decode cJ2_getChar_3b067 18 = .ok (.new 52, 3) := by decide +kernel
theorem dJ2_getChar_3b067_21 : decode cJ2_getChar_3b067 21 = .ok (.dup, 1) := by decide +kernel
theorem dJ2_getChar_3b067_22 : decode cJ2_getChar_3b067 22 = .ok (.ldc 54, 2) := by decide +kernel
theorem dJ2_getChar_3b067_24 : decode cJ2_getChar_3b067 24 = .ok (.invokespecial 56, 3) := by decide +kernel
theorem dJ2_getChar_3b067_27 : decode cJ2_getChar_3b067 27 = .ok (.athrow, 1) := by decide +kernel
theorem dJ2_getChar_3b067_28 : decode cJ2_getChar_3b067 28 = .ok (.iload_n 1, 1) := by decide +kernel
theorem dJ2_getChar_3b067_29 : decode cJ2_getChar_3b067 29 = .ok (.iconst 1, 1) := by decide +kernel
theorem dJ2_getChar_3b067_30 : decode cJ2_getChar_3b067 30 = .ok (.ishl, 1) := by decide +kernel
theorem dJ2_getChar_3b067_31 : decode cJ2_getChar_3b067 31 = .ok (.istore_n 1, 1) := by decide +kernel
theorem dJ2_getChar_3b067_32 : decode cJ2_getChar_3b067 32 = .ok (.aload_n 0, 1) := by decide +kernel
theorem dJ2_getChar_3b067_33 : decode cJ2_getChar_3b067 33 = .ok (.iload_n 1, 1) := by decide +kernel
theorem dJ2_getChar_3b067_34 : decode cJ2_getChar_3b067 34 = .ok (.iinc 1 1, 3) := by decide +kernel
theorem dJ2_getChar_3b067_37 : decode cJ2_getChar_3b067 37 = .ok (.baload, 1) := by decide +kernel
theorem dJ2_getChar_3b067_38 : decode cJ2_getChar_3b067 38 = .ok (.sipush 255, 3) := by decide +kernel
theorem dJ2_getChar_3b067_41 : decode cJ2_getChar_3b067 41 = .ok (.iand, 1) := by decide +kernel
theorem dJ2_getChar_3b067_42 : decode cJ2_getChar_3b067 42 = .ok (.getstatic 59, 3) := by decide +kernel
theorem dJ2_getChar_3b067_45 : decode cJ2_getChar_3b067 45 = .ok (.ishl, 1) := by decide +kernel
theorem dJ2_getChar_3b067_46 : decode cJ2_getChar_3b067 46 = .ok (.aload_n 0, 1) := by decide +kernel
theorem dJ2_getChar_3b067_47 : decode cJ2_getChar_3b067 47 = .ok (.iload_n 1, 1) := by decide +kernel
theorem dJ2_getChar_3b067_48 : decode cJ2_getChar_3b067 48 = .ok (.baload, 1) := by decide +kernel
theorem dJ2_getChar_3b067_49 : decode cJ2_getChar_3b067 49 = .ok (.sipush 255, 3) := by decide +kernel
theorem dJ2_getChar_3b067_52 : decode cJ2_getChar_3b067 52 = .ok (.iand, 1) := by decide +kernel
theorem dJ2_getChar_3b067_53 : decode cJ2_getChar_3b067 53 = .ok (.getstatic 63, 3) := by decide +kernel
theorem dJ2_getChar_3b067_56 : decode cJ2_getChar_3b067 56 = .ok (.ishl, 1) := by decide +kernel
theorem dJ2_getChar_3b067_57 : decode cJ2_getChar_3b067 57 = .ok (.ior, 1) := by decide +kernel
theorem dJ2_getChar_3b067_58 : decode cJ2_getChar_3b067 58 = .ok (.i2c, 1) := by decide +kernel
theorem dJ2_getChar_3b067_59 : decode cJ2_getChar_3b067 59 = .ok (.ireturn, 1) := by decide +kernel
theorem dJ2_length_9d52b_0 : decode cJ2_length_9d52b 0 = .ok (.aload_n 0, 1) := by decide +kernel
theorem dJ2_length_9d52b_1 : decode cJ2_length_9d52b 1 = .ok (.arraylength, 1) := by decide +kernel
theorem dJ2_length_9d52b_2 : decode cJ2_length_9d52b 2 = .ok (.iconst 1, 1) := by decide +kernel
theorem dJ2_length_9d52b_3 : decode cJ2_length_9d52b 3 = .ok (.ishr, 1) := by decide +kernel
theorem dJ2_length_9d52b_4 : decode cJ2_length_9d52b 4 = .ok (.ireturn, 1) := by decide +kernel
theorem dJ2_coderFromArrayLen_85cad_0 : decode cJ2_coderFromArrayLen_85cad 0 = .ok (.iload_n 1, 1) := by decide +kernel
theorem dJ2_coderFromArrayLen_85cad_1 : decode cJ2_coderFromArrayLen_85cad 1 = .ok (.aload_n 0, 1) := by decide +kernel
theorem dJ2_coderFromArrayLen_85cad_2 : decode cJ2_coderFromArrayLen_85cad 2 = .ok (.arraylength, 1) := by decide +kernel
theorem dJ2_coderFromArrayLen_85cad_3 : decode cJ2_coderFromArrayLen_85cad 3 = .ok (.isub, 1) := by decide +kernel
theorem dJ2_coderFromArrayLen_85cad_4 : decode cJ2_coderFromArrayLen_85cad 4 = .ok (.bipush 31, 2) := by decide +kernel
theorem dJ2_coderFromArrayLen_85cad_6 : decode cJ2_coderFromArrayLen_85cad 6 = .ok (.iushr, 1) := by decide +kernel
theorem dJ2_coderFromArrayLen_85cad_7 : decode cJ2_coderFromArrayLen_85cad 7 = .ok (.i2b, 1) := by decide +kernel
theorem dJ2_coderFromArrayLen_85cad_8 : decode cJ2_coderFromArrayLen_85cad 8 = .ok (.ireturn, 1) := by decide +kernel
theorem dJ2_compress_39247_0 : decode cJ2_compress_39247 0 = .ok (.iload_n 2, 1) := by decide +kernel
theorem dJ2_compress_39247_1 : decode cJ2_compress_39247 1 = .ok (.newarray .byte, 2) := by decide +kernel
theorem dJ2_compress_39247_3 : decode cJ2_compress_39247 3 = .ok (.astore_n 3, 1) := by decide +kernel
theorem dJ2_compress_39247_4 : decode cJ2_compress_39247 4 = .ok (.aload_n 0, 1) := by decide +kernel
theorem dJ2_compress_39247_5 : decode cJ2_compress_39247 5 = .ok (.iload_n 1, 1) := by decide +kernel
theorem dJ2_compress_39247_6 : decode cJ2_compress_39247 6 = .ok (.aload_n 3, 1) := by decide +kernel
theorem dJ2_compress_39247_7 : decode cJ2_compress_39247 7 = .ok (.iconst 0, 1) := by decide +kernel
theorem dJ2_compress_39247_8 : decode cJ2_compress_39247 8 = .ok (.iload_n 2, 1) := by decide +kernel
theorem dJ2_compress_39247_9 : decode cJ2_compress_39247 9 = .ok (.invokestatic 123, 3) := by decide +kernel
theorem dJ2_compress_39247_12 : decode cJ2_compress_39247 12 = .ok (.istore 4, 2) := by decide +kernel
theorem dJ2_compress_39247_14 : decode cJ2_compress_39247 14 = .ok (.iload 4, 2) := by decide +kernel
theorem dJ2_compress_39247_16 : decode cJ2_compress_39247 16 = .ok (.iload_n 2, 1) := by decide +kernel
theorem dJ2_compress_39247_17 : decode cJ2_compress_39247 17 = .ok (.if_icmp .eq 47, 3) := by decide +kernel
theorem dJ2_compress_39247_20 : decode cJ2_compress_39247 20 = .ok (.aload_n 0, 1) := by decide +kernel
theorem dJ2_compress_39247_21 : decode cJ2_compress_39247 21 = .ok (.iload_n 1, 1) := by decide +kernel
theorem dJ2_compress_39247_22 : decode cJ2_compress_39247 22 = .ok (.iconst 1, 1) := by decide +kernel
theorem dJ2_compress_39247_23 : decode cJ2_compress_39247 23 = .ok (.ishl, 1) := by decide +kernel
theorem dJ2_compress_39247_24 : decode cJ2_compress_39247 24 = .ok (.iload_n 1, 1) := by decide +kernel
theorem dJ2_compress_39247_25 : decode cJ2_compress_39247 25 = .ok (.iload_n 2, 1) := by decide +kernel
theorem dJ2_compress_39247_26 : decode cJ2_compress_39247 26 = .ok (.iadd, 1) := by decide +kernel
theorem dJ2_compress_39247_27 : decode cJ2_compress_39247 27 = .ok (.invokestatic 11, 3) := by decide +kernel
theorem dJ2_compress_39247_30 : decode cJ2_compress_39247 30 = .ok (.invokestatic 126, 3) := by decide +kernel
theorem dJ2_compress_39247_33 : decode cJ2_compress_39247 33 = .ok (.astore 5, 2) := by decide +kernel
theorem dJ2_compress_39247_35 : decode cJ2_compress_39247 35 = .ok (.aload 5, 2) := by decide +kernel
theorem dJ2_compress_39247_37 : decode cJ2_compress_39247 37 = .ok (.iload 4, 2) := by decide +kernel
theorem dJ2_compress_39247_39 : decode cJ2_compress_39247 39 = .ok (.invokestatic 71, 3) := by decide +kernel
theorem dJ2_compress_39247_42 : decode cJ2_compress_39247 42 = .ok (.sipush 255, 3) := by decide +kernel
theorem dJ2_compress_39247_45 : decode cJ2_compress_39247 45 = .ok (.if_icmp .gt 16, 3) := by decide +kernel
theorem dJ2_compress_39247_48 : decode cJ2_compress_39247 48 = .ok (.aload 5, 2) := by decide +kernel
theorem dJ2_compress_39247_50 : decode cJ2_compress_39247 50 = .ok (.iconst 0, 1) := by decide +kernel
theorem dJ2_compress_39247_51 : decode cJ2_compress_39247 51 = .ok (.aload_n 3, 1) := by decide +kernel
theorem dJ2_compress_39247_52 : decode cJ2_compress_39247 52 = .ok (.iconst 0, 1) := by decide +kernel
theorem dJ2_compress_39247_53 : decode cJ2_compress_39247 53 = .ok (.iload_n 2, 1) := by decide +kernel
theorem dJ2_compress_39247_54 : decode cJ2_compress_39247 54 = .ok (.invokestatic 123, 3) := by decide +kernel
theorem dJ2_compress_39247_57 : decode cJ2_compress_39247 57 = .ok (.iload_n 2, 1) := by decide +kernel
theorem dJ2_compress_39247_58 : decode cJ2_compress_39247 58 = .ok (.if_icmp .eq 6, 3) := by decide +kernel
theorem dJ2_compress_39247_61 : decode cJ2_compress_39247 61 = .ok (.aload 5, 2) := by decide +kernel
theorem dJ2_compress_39247_63 : decode cJ2_compress_39247 63 = .ok (.areturn, 1) := by decide +kernel
theorem dJ2_compress_39247_64 : decode cJ2_compress_39247 64 = .ok (.aload_n 3, 1) := by decide +kernel
theorem dJ2_compress_39247_65 : decode cJ2_compress_39247 65 = .ok (.areturn, 1) := by decide +kernel
theorem dJ2_compress_5af95_0 : decode cJ2_compress_5af95 0 = .ok (.iload_n 1, 1) := by decide +kernel
theorem dJ2_compress_5af95_1 : decode cJ2_compress_5af95 1 = .ok (.iload 4, 2) := by decide +kernel
theorem dJ2_compress_5af95_3 : decode cJ2_compress_5af95 3 = .ok (.aload_n 0, 1) := by decide +kernel
theorem dJ2_compress_5af95_4 : decode cJ2_compress_5af95 4 = .ok (.invokestatic 173, 3) := by decide +kernel
theorem dJ2_compress_5af95_7 : decode cJ2_compress_5af95 7 = .ok (.iconst 0, 1) := by decide +kernel
theorem dJ2_compress_5af95_8 : decode cJ2_compress_5af95 8 = .ok (.istore 5, 2) := by decide +kernel
theorem dJ2_compress_5af95_10 : decode cJ2_compress_5af95 10 = .ok (.iload 5, 2) := by decide +kernel
theorem dJ2_compress_5af95_12 : decode cJ2_compress_5af95 12 = .ok (.iload 4, 2) := by decide +kernel
theorem dJ2_compress_5af95_14 : decode cJ2_compress_5af95 14 = .ok (.if_icmp .ge 39, 3) := by decide +kernel
theorem dJ2_compress_5af95_17 : decode cJ2_compress_5af95 17 = .ok (.aload_n 0, 1) := by decide +kernel
theorem dJ2_compress_5af95_18 : decode cJ2_compress_5af95 18 = .ok (.iload_n 1, 1) := by decide +kernel
theorem dJ2_compress_5af95_19 : decode cJ2_compress_5af95 19 = .ok (.invokestatic 71, 3) := by decide +kernel
theorem dJ2_compress_5af95_22 : decode cJ2_compress_5af95 22 = .ok (.istore 6, 2) := by decide +kernel
theorem dJ2_compress_5af95_24 : decode cJ2_compress_5af95 24 = .ok (.iload 6, 2) := by decide +kernel
theorem dJ2_compress_5af95_26 : decode cJ2_compress_5af95 26 = .ok (.sipush 255, 3) := by decide +kernel
theorem dJ2_compress_5af95_29 : decode cJ2_compress_5af95 29 = .ok (.if_icmp .le 6, 3) := by decide +kernel
theorem dJ2_compress_5af95_32 : decode cJ2_compress_5af95 32 = .ok (.iload 5, 2) := by decide +kernel
theorem dJ2_compress_5af95_34 : decode cJ2_compress_5af95 34 = .ok (.ireturn, 1) := by decide +kernel
theorem dJ2_compress_5af95_35 : decode cJ2_compress_5af95 35 = .ok (.aload_n 2, 1) := by decide +kernel
theorem dJ2_compress_5af95_36 : decode cJ2_compress_5af95 36 = .ok (.iload_n 3, 1) := by decide +kernel
theorem dJ2_compress_5af95_37 : decode cJ2_compress_5af95 37 = .ok (.iload 6, 2) := by decide +kernel
theorem dJ2_compress_5af95_39 : decode cJ2_compress_5af95 39 = .ok (.i2b, 1) := by decide +kernel
theorem dJ2_compress_5af95_40 : decode cJ2_compress_5af95 40 = .ok (.bastore, 1) := by decide +kernel
theorem dJ2_compress_5af95_41 : decode cJ2_compress_5af95 41 = .ok (.iinc 1 1, 3) := by decide +kernel
theorem dJ2_compress_5af95_44 : decode cJ2_compress_5af95 44 = .ok (.iinc 3 1, 3) := by decide +kernel
theorem dJ2_compress_5af95_47 : decode cJ2_compress_5af95 47 = .ok (.iinc 5 1, 3) := by decide +kernel
theorem dJ2_compress_5af95_50 : decode cJ2_compress_5af95 50 = .ok (.goto (-40), 3) := by decide +kernel
theorem dJ2_compress_5af95_53 : decode cJ2_compress_5af95 53 = .ok (.iload 4, 2) := by decide +kernel
theorem dJ2_compress_5af95_55 : decode cJ2_compress_5af95 55 = .ok (.ireturn, 1) := by decide +kernel
theorem dJ2_putCharSB_b72d1_0 : decode cJ2_putCharSB_b72d1 0 = .ok (.iload_n 1, 1) := by decide +kernel
theorem dJ2_putCharSB_b72d1_1 : decode cJ2_putCharSB_b72d1 1 = .ok (.aload_n 0, 1) := by decide +kernel
theorem dJ2_putCharSB_b72d1_2 : decode cJ2_putCharSB_b72d1 2 = .ok (.invokestatic 67, 3) := by decide +kernel
theorem dJ2_putCharSB_b72d1_5 : decode cJ2_putCharSB_b72d1 5 = .ok (.aload_n 0, 1) := by decide +kernel
theorem dJ2_putCharSB_b72d1_6 : decode cJ2_putCharSB_b72d1 6 = .ok (.iload_n 1, 1) := by decide +kernel
theorem dJ2_putCharSB_b72d1_7 : decode cJ2_putCharSB_b72d1 7 = .ok (.iload_n 2, 1) := by decide +kernel
theorem dJ2_putCharSB_b72d1_8 : decode cJ2_putCharSB_b72d1 8 = .ok (.invokestatic 111, 3) := by decide +kernel
theorem dJ2_putCharSB_b72d1_11 : decode cJ2_putCharSB_b72d1 11 = .ok (.return_, 1) := by decide +kernel
theorem dJ2_getChars_46870_0 : decode cJ2_getChars_46870 0 = .ok (.iload_n 1, 1) := by decide +kernel
theorem dJ2_getChars_46870_1 : decode cJ2_getChars_46870 1 = .ok (.iload_n 2, 1) := by decide +kernel
theorem dJ2_getChars_46870_2 : decode cJ2_getChars_46870 2 = .ok (.aload_n 3, 1) := by decide +kernel
theorem dJ2_getChars_46870_3 : decode cJ2_getChars_46870 3 = .ok (.invokestatic 96, 3) := by decide +kernel
theorem dJ2_getChars_46870_6 : decode cJ2_getChars_46870 6 = .ok (.iload_n 0, 1) := by decide +kernel
theorem dJ2_getChars_46870_7 : decode cJ2_getChars_46870 7 = .ok (.iload_n 2, 1) := by decide +kernel
theorem dJ2_getChars_46870_8 : decode cJ2_getChars_46870 8 = .ok (.aload_n 3, 1) := by decide +kernel
theorem dJ2_getChars_46870_9 : decode cJ2_getChars_46870 9 = .ok (.invokestatic 393, 3) := by decide +kernel
theorem dJ2_getChars_46870_12 : decode cJ2_getChars_46870 12 = .ok (.istore 4, 2) := by decide +kernel
theorem dJ2_getChars_46870_14 : decode cJ2_getChars_46870 14 = .ok (.getstatic 44, 3) := by decide +kernel
theorem dJ2_getChars_46870_17 : decode cJ2_getChars_46870 17 = .ok (.ifCond .ne 17, 3) := by decide +kernel
theorem dJ2_getChars_46870_20 : decode cJ2_getChars_46870 20 = .ok (.iload_n 1, 1) := by decide +kernel
theorem dJ2_getChars_46870_21 : decode cJ2_getChars_46870 21 = .ok (.iload 4, 2) := by decide +kernel
theorem dJ2_getChars_46870_23 : decode cJ2_getChars_46870 23 = .ok (.if_icmp .eq 11, 3) := by decide +kernel
theorem dJ2_getChars_46870_26 : decode cJ2_getChars_46870 26 = .ok (.new 52, 3) := by decide +kernel
theorem dJ2_getChars_46870_29 : decode cJ2_getChars_46870 29 = .ok (.dup, 1) := by decide +kernel
theorem dJ2_getChars_46870_30 : decode cJ2_getChars_46870 30 = .ok (.invokespecial 66, 3) := by decide +kernel
theorem dJ2_getChars_46870_33 : decode cJ2_getChars_46870 33 = .ok (.athrow, 1) := by decide +kernel
theorem dJ2_getChars_46870_34 : decode cJ2_getChars_46870 34 = .ok (.iload 4, 2) := by decide +kernel
theorem dJ2_getChars_46870_36 : decode cJ2_getChars_46870 36 = .ok (.ireturn, 1) := by decide +kernel
theorem dJ2_putCharsAt_cd4e5_0 : decode cJ2_putCharsAt_cd4e5 0 = .ok (.iload_n 1, 1) := by decide +kernel
theorem dJ2_putCharsAt_cd4e5_1 : decode cJ2_putCharsAt_cd4e5 1 = .ok (.iconst 4, 1) := by decide +kernel
theorem dJ2_putCharsAt_cd4e5_2 : decode cJ2_putCharsAt_cd4e5 2 = .ok (.iadd, 1) := by decide +kernel
theorem dJ2_putCharsAt_cd4e5_3 : decode cJ2_putCharsAt_cd4e5 3 = .ok (.istore 6, 2) := by decide +kernel
theorem dJ2_putCharsAt_cd4e5_5 : decode cJ2_putCharsAt_cd4e5 5 = .ok (.iload_n 1, 1) := by decide +kernel
theorem dJ2_putCharsAt_cd4e5_6 : decode cJ2_putCharsAt_cd4e5 6 = .ok (.iload 6, 2) := by decide +kernel
theorem dJ2_putCharsAt_cd4e5_8 : decode cJ2_putCharsAt_cd4e5 8 = .ok (.aload_n 0, 1) := by decide +kernel
theorem dJ2_putCharsAt_cd4e5_9 : decode cJ2_putCharsAt_cd4e5 9 = .ok (.invokestatic 96, 3) := by decide +kernel
theorem dJ2_putCharsAt_cd4e5_12 : decode cJ2_putCharsAt_cd4e5 12 = .ok (.aload_n 0, 1) := by decide +kernel
theorem dJ2_putCharsAt_cd4e5_13 : decode cJ2_putCharsAt_cd4e5 13 = .ok (.iload_n 1, 1) := by decide +kernel
theorem dJ2_putCharsAt_cd4e5_14 : decode cJ2_putCharsAt_cd4e5 14 = .ok (.iinc 1 1, 3) := by decide +kernel
theorem dJ2_putCharsAt_cd4e5_17 : decode cJ2_putCharsAt_cd4e5 17 = .ok (.iload_n 2, 1) := by decide +kernel
theorem dJ2_putCharsAt_cd4e5_18 : decode cJ2_putCharsAt_cd4e5 18 = .ok (.invokestatic 111, 3) := by decide +kernel
theorem dJ2_putCharsAt_cd4e5_21 : decode cJ2_putCharsAt_cd4e5 21 = .ok (.aload_n 0, 1) := by decide +kernel
theorem dJ2_putCharsAt_cd4e5_22 : decode cJ2_putCharsAt_cd4e5 22 = .ok (.iload_n 1, 1) := by decide +kernel
theorem dJ2_putCharsAt_cd4e5_23 : decode cJ2_putCharsAt_cd4e5 23 = .ok (.iinc 1 1, 3) := by decide +kernel
theorem dJ2_putCharsAt_cd4e5_26 : decode cJ2_putCharsAt_cd4e5 26 = .ok (.iload_n 3, 1) := by decide +kernel
theorem dJ2_putCharsAt_cd4e5_27 : decode cJ2_putCharsAt_cd4e5 27 = .ok (.invokestatic 111, 3) := by decide +kernel
theorem dJ2_putCharsAt_cd4e5_30 : decode cJ2_putCharsAt_cd4e5 30 = .ok (.aload_n 0, 1) := by decide +kernel
theorem dJ2_putCharsAt_cd4e5_31 : decode cJ2_putCharsAt_cd4e5 31 = .ok (.iload_n 1, 1) := by decide +kernel
theorem dJ2_putCharsAt_cd4e5_32 : decode cJ2_putCharsAt_cd4e5 32 = .ok (.iinc 1 1, 3) := by decide +kernel
theorem dJ2_putCharsAt_cd4e5_35 : decode cJ2_putCharsAt_cd4e5 35 = .ok (.iload 4, 2) := by decide +kernel
theorem dJ2_putCharsAt_cd4e5_37 : decode cJ2_putCharsAt_cd4e5 37 = .ok (.invokestatic 111, 3) := by decide +kernel
theorem dJ2_putCharsAt_cd4e5_40 : decode cJ2_putCharsAt_cd4e5 40 = .ok (.aload_n 0, 1) := by decide +kernel
theorem dJ2_putCharsAt_cd4e5_41 : decode cJ2_putCharsAt_cd4e5 41 = .ok (.iload_n 1, 1) := by decide +kernel
theorem dJ2_putCharsAt_cd4e5_42 : decode cJ2_putCharsAt_cd4e5 42 = .ok (.iinc 1 1, 3) := by decide +kernel
theorem dJ2_putCharsAt_cd4e5_45 : decode cJ2_putCharsAt_cd4e5 45 = .ok (.iload 5, 2) := by decide +kernel
theorem dJ2_putCharsAt_cd4e5_47 : decode cJ2_putCharsAt_cd4e5 47 = .ok (.invokestatic 111, 3) := by decide +kernel
theorem dJ2_putCharsAt_cd4e5_50 : decode cJ2_putCharsAt_cd4e5 50 = .ok (.getstatic 44, 3) := by decide +kernel
theorem dJ2_putCharsAt_cd4e5_53 : decode cJ2_putCharsAt_cd4e5 53 = .ok (.ifCond .ne 17, 3) := by decide +kernel
theorem dJ2_putCharsAt_cd4e5_56 : decode cJ2_putCharsAt_cd4e5 56 = .ok (.iload_n 1, 1) := by decide +kernel
theorem dJ2_putCharsAt_cd4e5_57 : decode cJ2_putCharsAt_cd4e5 57 = .ok (.iload 6, 2) := by decide +kernel
theorem dJ2_putCharsAt_cd4e5_59 : decode cJ2_putCharsAt_cd4e5 59 = .ok (.if_icmp .eq 11, 3) := by decide +kernel
theorem dJ2_putCharsAt_cd4e5_62 : decode cJ2_putCharsAt_cd4e5 62 = .ok (.new 52, 3) := by decide +kernel
theorem dJ2_putCharsAt_cd4e5_65 : decode cJ2_putCharsAt_cd4e5 65 = .ok (.dup, 1) := by decide +kernel
theorem dJ2_putCharsAt_cd4e5_66 : decode cJ2_putCharsAt_cd4e5 66 = .ok (.invokespecial 66, 3) := by decide +kernel
theorem dJ2_putCharsAt_cd4e5_69 : decode cJ2_putCharsAt_cd4e5 69 = .ok (.athrow, 1) := by decide +kernel
theorem dJ2_putCharsAt_cd4e5_70 : decode cJ2_putCharsAt_cd4e5 70 = .ok (.iload 6, 2) := by decide +kernel
theorem dJ2_putCharsAt_cd4e5_72 : decode cJ2_putCharsAt_cd4e5 72 = .ok (.ireturn, 1) := by decide +kernel
theorem dJ2_charAt_3b067_0 : decode cJ2_charAt_3b067 0 = .ok (.iload_n 1, 1) := by decide +kernel
theorem dJ2_charAt_3b067_1 : decode cJ2_charAt_3b067 1 = .ok (.aload_n 0, 1) := by decide +kernel
theorem dJ2_charAt_3b067_2 : decode cJ2_charAt_3b067 2 = .ok (.invokestatic 67, 3) := by decide +kernel
theorem dJ2_charAt_3b067_5 : decode cJ2_charAt_3b067 5 = .ok (.aload_n 0, 1) := by decide +kernel
theorem dJ2_charAt_3b067_6 : decode cJ2_charAt_3b067 6 = .ok (.iload_n 1, 1) := by decide +kernel
theorem dJ2_charAt_3b067_7 : decode cJ2_charAt_3b067 7 = .ok (.invokestatic 71, 3) := by decide +kernel
theorem dJ2_charAt_3b067_10 : decode cJ2_charAt_3b067 10 = .ok (.ireturn, 1) := by decide +kernel
theorem dJ2_inflate_0e8fd_0 : decode cJ2_inflate_0e8fd 0 = .ok (.iload_n 3, 1) := by decide +kernel
theorem dJ2_inflate_0e8fd_1 : decode cJ2_inflate_0e8fd 1 = .ok (.iload 4, 2) := by decide +kernel
theorem dJ2_inflate_0e8fd_3 : decode cJ2_inflate_0e8fd 3 = .ok (.aload_n 2, 1) := by decide +kernel
theorem dJ2_inflate_0e8fd_4 : decode cJ2_inflate_0e8fd 4 = .ok (.invokestatic 173, 3) := by decide +kernel
theorem dJ2_inflate_0e8fd_7 : decode cJ2_inflate_0e8fd 7 = .ok (.iconst 0, 1) := by decide +kernel
theorem dJ2_inflate_0e8fd_8 : decode cJ2_inflate_0e8fd 8 = .ok (.istore 5, 2) := by decide +kernel
theorem dJ2_inflate_0e8fd_10 : decode cJ2_inflate_0e8fd 10 = .ok (.iload 5, 2) := by decide +kernel
theorem dJ2_inflate_0e8fd_12 : decode cJ2_inflate_0e8fd 12 = .ok (.iload 4, 2) := by decide +kernel
theorem dJ2_inflate_0e8fd_14 : decode cJ2_inflate_0e8fd 14 = .ok (.if_icmp .ge 27, 3) := by decide +kernel
theorem dJ2_inflate_0e8fd_17 : decode cJ2_inflate_0e8fd 17 = .ok (.aload_n 2, 1) := by decide +kernel
theorem dJ2_inflate_0e8fd_18 : decode cJ2_inflate_0e8fd 18 = .ok (.iload_n 3, 1) := by decide +kernel
theorem dJ2_inflate_0e8fd_19 : decode cJ2_inflate_0e8fd 19 = .ok (.iinc 3 1, 3) := by decide +kernel
theorem dJ2_inflate_0e8fd_22 : decode cJ2_inflate_0e8fd 22 = .ok (.aload_n 0, 1) := by decide +kernel
theorem dJ2_inflate_0e8fd_23 : decode cJ2_inflate_0e8fd 23 = .ok (.iload_n 1, 1) := by decide +kernel
theorem dJ2_inflate_0e8fd_24 : decode cJ2_inflate_0e8fd 24 = .ok (.iinc 1 1, 3) := by decide +kernel
theorem dJ2_inflate_0e8fd_27 : decode cJ2_inflate_0e8fd 27 = .ok (.baload, 1) := by decide +kernel
theorem dJ2_inflate_0e8fd_28 : decode cJ2_inflate_0e8fd 28 = .ok (.sipush 255, 3) := by decide +kernel
theorem dJ2_inflate_0e8fd_31 : decode cJ2_inflate_0e8fd 31 = .ok (.iand, 1) := by decide +kernel
theorem dJ2_inflate_0e8fd_32 : decode cJ2_inflate_0e8fd 32 = .ok (.invokestatic 111, 3) := by decide +kernel
theorem dJ2_inflate_0e8fd_35 : decode cJ2_inflate_0e8fd 35 = .ok (.iinc 5 1, 3) := by decide +kernel
theorem dJ2_inflate_0e8fd_38 : decode cJ2_inflate_0e8fd 38 = .ok (.goto (-28), 3) := by decide +kernel
theorem dJ2_inflate_0e8fd_41 : decode cJ2_inflate_0e8fd 41 = .ok (.return_, 1) := by decide +kernel
theorem dJ2_getChars_ba4f3_0 : decode cJ2_getChars_ba4f3 0 = .ok (.iload_n 1, 1) := by decide +kernel
theorem dJ2_getChars_ba4f3_1 : decode cJ2_getChars_ba4f3 1 = .ok (.istore 5, 2) := by decide +kernel
theorem dJ2_getChars_ba4f3_3 : decode cJ2_getChars_ba4f3 3 = .ok (.iload_n 0, 1) := by decide +kernel
theorem dJ2_getChars_ba4f3_4 : decode cJ2_getChars_ba4f3 4 = .ok (.ifCond .ge 7, 3) := by decide +kernel
theorem dJ2_getChars_ba4f3_7 : decode cJ2_getChars_ba4f3 7 = .ok (.iconst 1, 1) := by decide +kernel
theorem dJ2_getChars_ba4f3_8 : decode cJ2_getChars_ba4f3 8 = .ok (.goto 4, 3) := by decide +kernel
theorem dJ2_getChars_ba4f3_11 : decode cJ2_getChars_ba4f3 11 = .ok (.iconst 0, 1) := by decide +kernel
theorem dJ2_getChars_ba4f3_12 : decode cJ2_getChars_ba4f3 12 = .ok (.istore 6, 2) := by decide +kernel
theorem dJ2_getChars_ba4f3_14 : decode cJ2_getChars_ba4f3 14 = .ok (.iload 6, 2) := by decide +kernel
theorem dJ2_getChars_ba4f3_16 : decode cJ2_getChars_ba4f3 16 = .ok (.ifCond .ne 6, 3) := by decide +kernel
theorem dJ2_getChars_ba4f3_19 : decode cJ2_getChars_ba4f3 19 = .ok (.iload_n 0, 1) := by decide +kernel
theorem dJ2_getChars_ba4f3_20 : decode cJ2_getChars_ba4f3 20 = .ok (.ineg, 1) := by decide +kernel
theorem dJ2_getChars_ba4f3_21 : decode cJ2_getChars_ba4f3 21 = .ok (.istore_n 0, 1) := by decide +kernel
theorem dJ2_getChars_ba4f3_22 : decode cJ2_getChars_ba4f3 22 = .ok (.iload_n 0, 1) := by decide +kernel
theorem dJ2_getChars_ba4f3_23 : decode cJ2_getChars_ba4f3 23 = .ok (.bipush (-100), 2) := by decide +kernel
theorem dJ2_getChars_ba4f3_25 : decode cJ2_getChars_ba4f3 25 = .ok (.if_icmp .gt 51, 3) := by decide +kernel
theorem dJ2_getChars_ba4f3_28 : decode cJ2_getChars_ba4f3 28 = .ok (.iload_n 0, 1) := by decide +kernel
theorem dJ2_getChars_ba4f3_29 : decode cJ2_getChars_ba4f3 29 = .ok (.bipush 100, 2) := by decide +kernel
theorem dJ2_getChars_ba4f3_31 : decode cJ2_getChars_ba4f3 31 = .ok (.idiv, 1) := by decide +kernel
theorem dJ2_getChars_ba4f3_32 : decode cJ2_getChars_ba4f3 32 = .ok (.istore_n 3, 1) := by decide +kernel
theorem dJ2_getChars_ba4f3_33 : decode cJ2_getChars_ba4f3 33 = .ok (.iload_n 3, 1) := by decide +kernel
theorem dJ2_getChars_ba4f3_34 : decode cJ2_getChars_ba4f3 34 = .ok (.bipush 100, 2) := by decide +kernel
theorem dJ2_getChars_ba4f3_36 : decode cJ2_getChars_ba4f3 36 = .ok (.imul, 1) := by decide +kernel
theorem dJ2_getChars_ba4f3_37 : decode cJ2_getChars_ba4f3 37 = .ok (.iload_n 0, 1) := by decide +kernel
theorem dJ2_getChars_ba4f3_38 : decode cJ2_getChars_ba4f3 38 = .ok (.isub, 1) := by decide +kernel
theorem dJ2_getChars_ba4f3_39 : decode cJ2_getChars_ba4f3 39 = .ok (.istore 4, 2) := by decide +kernel
theorem dJ2_getChars_ba4f3_41 : decode cJ2_getChars_ba4f3 41 = .ok (.iload_n 3, 1) := by decide +kernel
theorem dJ2_getChars_ba4f3_42 : decode cJ2_getChars_ba4f3 42 = .ok (.istore_n 0, 1) := by decide +kernel
theorem dJ2_getChars_ba4f3_43 : decode cJ2_getChars_ba4f3 43 = .ok (.aload_n 2, 1) := by decide +kernel
theorem dJ2_getChars_ba4f3_44 : decode cJ2_getChars_ba4f3 44 = .ok (.iinc 5 (-1), 3) := by decide +kernel
theorem dJ2_getChars_ba4f3_47 : decode cJ2_getChars_ba4f3 47 = .ok (.iload 5, 2) := by decide +kernel
theorem dJ2_getChars_ba4f3_49 : decode cJ2_getChars_ba4f3 49 = .ok (.getstatic 403, 3) := by decide +kernel
theorem dJ2_getChars_ba4f3_52 : decode cJ2_getChars_ba4f3 52 = .ok (.iload 4, 2) := by decide +kernel
theorem dJ2_getChars_ba4f3_54 : decode cJ2_getChars_ba4f3 54 = .ok (.baload, 1) := by decide +kernel
theorem dJ2_getChars_ba4f3_55 : decode cJ2_getChars_ba4f3 55 = .ok (.invokestatic 111, 3) := by decide +kernel
theorem dJ2_getChars_ba4f3_58 : decode cJ2_getChars_ba4f3 58 = .ok (.aload_n 2, 1) := by decide +kernel
theorem dJ2_getChars_ba4f3_59 : decode cJ2_getChars_ba4f3 59 = .ok (.iinc 5 (-1), 3) := by decide +kernel
theorem dJ2_getChars_ba4f3_62 : decode cJ2_getChars_ba4f3 62 = .ok (.iload 5, 2) := by decide +kernel
theorem dJ2_getChars_ba4f3_64 : decode cJ2_getChars_ba4f3 64 = .ok (.getstatic 407, 3) := by decide +kernel
theorem dJ2_getChars_ba4f3_67 : decode cJ2_getChars_ba4f3 67 = .ok (.iload 4, 2) := by decide +kernel
theorem dJ2_getChars_ba4f3_69 : decode cJ2_getChars_ba4f3 69 = .ok (.baload, 1) := by decide +kernel
theorem dJ2_getChars_ba4f3_70 : decode cJ2_getChars_ba4f3 70 = .ok (.invokestatic 111, 3) := by decide +kernel
theorem dJ2_getChars_ba4f3_73 : decode cJ2_getChars_ba4f3 73 = .ok (.goto (-51), 3) := by decide +kernel
theorem dJ2_getChars_ba4f3_76 : decode cJ2_getChars_ba4f3 76 = .ok (.aload_n 2, 1) := by decide +kernel
theorem dJ2_getChars_ba4f3_77 : decode cJ2_getChars_ba4f3 77 = .ok (.iinc 5 (-1), 3) := by decide +kernel
theorem dJ2_getChars_ba4f3_80 : decode cJ2_getChars_ba4f3 80 = .ok (.iload 5, 2) := by decide +kernel
theorem dJ2_getChars_ba4f3_82 : decode cJ2_getChars_ba4f3 82 = .ok (.getstatic 403, 3) := by decide +kernel
theorem dJ2_getChars_ba4f3_85 : decode cJ2_getChars_ba4f3 85 = .ok (.iload_n 0, 1) := by decide +kernel
theorem dJ2_getChars_ba4f3_86 : decode cJ2_getChars_ba4f3 86 = .ok (.ineg, 1) := by decide +kernel
theorem dJ2_getChars_ba4f3_87 : decode cJ2_getChars_ba4f3 87 = .ok (.baload, 1) := by decide +kernel
theorem dJ2_getChars_ba4f3_88 : decode cJ2_getChars_ba4f3 88 = .ok (.invokestatic 111, 3) := by decide +kernel
theorem dJ2_getChars_ba4f3_91 : decode cJ2_getChars_ba4f3 91 = .ok (.iload_n 0, 1) := by decide +kernel
theorem dJ2_getChars_ba4f3_92 : decode cJ2_getChars_ba4f3 92 = .ok (.bipush (-9), 2) := by decide +kernel
theorem dJ2_getChars_ba4f3_94 : decode cJ2_getChars_ba4f3 94 = .ok (.if_icmp .ge 18, 3) := by decide +kernel
theorem dJ2_getChars_ba4f3_97 : decode cJ2_getChars_ba4f3 97 = .ok (.aload_n 2, 1) := by decide +kernel
theorem dJ2_getChars_ba4f3_98 : decode cJ2_getChars_ba4f3 98 = .ok (.iinc 5 (-1), 3) := by decide +kernel
theorem dJ2_getChars_ba4f3_101 : decode cJ2_getChars_ba4f3 101 = .ok (.iload 5, 2) := by decide +kernel
theorem dJ2_getChars_ba4f3_103 : decode cJ2_getChars_ba4f3 103 = .ok (.getstatic 407, 3) := by decide +kernel
theorem dJ2_getChars_ba4f3_106 : decode cJ2_getChars_ba4f3 106 = .ok (.iload_n 0, 1) := by decide +kernel
theorem dJ2_getChars_ba4f3_107 : decode cJ2_getChars_ba4f3 107 = .ok (.ineg, 1) := by decide +kernel
theorem dJ2_getChars_ba4f3_108 : decode cJ2_getChars_ba4f3 108 = .ok (.baload, 1) := by decide +kernel
theorem dJ2_getChars_ba4f3_109 : decode cJ2_getChars_ba4f3 109 = .ok (.invokestatic 111, 3) := by decide +kernel
theorem dJ2_getChars_ba4f3_112 : decode cJ2_getChars_ba4f3 112 = .ok (.iload 6, 2) := by decide +kernel
theorem dJ2_getChars_ba4f3_114 : decode cJ2_getChars_ba4f3 114 = .ok (.ifCond .eq 14, 3) := by decide +kernel
theorem dJ2_getChars_ba4f3_117 : decode cJ2_getChars_ba4f3 117 = .ok (.aload_n 2, 1) := by decide +kernel
theorem dJ2_getChars_ba4f3_118 : decode cJ2_getChars_ba4f3 118 = .ok (.iinc 5 (-1), 3) := by decide +kernel
theorem dJ2_getChars_ba4f3_121 : decode cJ2_getChars_ba4f3 121 = .ok (.iload 5, 2) := by decide +kernel
theorem dJ2_getChars_ba4f3_123 : decode cJ2_getChars_ba4f3 123 = .ok (.bipush 45, 2) := by decide +kernel
theorem dJ2_getChars_ba4f3_125 : decode cJ2_getChars_ba4f3 125 = .ok (.invokestatic 111, 3) := by decide +kernel
theorem dJ2_getChars_ba4f3_128 : decode cJ2_getChars_ba4f3 128 = .ok (.iload 5, 2) := by decide +kernel
theorem dJ2_getChars_ba4f3_130 : decode cJ2_getChars_ba4f3 130 = .ok (.ireturn, 1) := by decide +kernel
theorem dJ2_checkIndex_2214a_0 : decode cJ2_checkIndex_2214a 0 = .ok (.iload_n 0, 1) := by decide +kernel
theorem dJ2_checkIndex_2214a_1 : decode cJ2_checkIndex_2214a 1 = .ok (.aload_n 1, 1) := by decide +kernel
theorem dJ2_checkIndex_2214a_2 : decode cJ2_checkIndex_2214a 2 = .ok (.invokestatic 48, 3) := by decide +kernel
theorem dJ2_checkIndex_2214a_5 : decode cJ2_checkIndex_2214a 5 = .ok (.invokestatic 414, 3) := by decide +kernel
theorem dJ2_checkIndex_2214a_8 : decode cJ2_checkIndex_2214a 8 = .ok (.return_, 1) := by decide +kernel
theorem dJ2_checkBoundsBeginEnd_d044e_0 : decode cJ2_checkBoundsBeginEnd_d044e 0 = .ok (.iload_n 0, 1) := by decide +kernel
theorem dJ2_checkBoundsBeginEnd_d044e_1 : decode cJ2_checkBoundsBeginEnd_d044e 1 = .ok (.iload_n 1, 1) := by decide +kernel
theorem dJ2_checkBoundsBeginEnd_d044e_2 : decode cJ2_checkBoundsBeginEnd_d044e 2 = .ok (.aload_n 2, 1) := by decide +kernel
theorem dJ2_checkBoundsBeginEnd_d044e_3 : decode cJ2_checkBoundsBeginEnd_d044e 3 = .ok (.invokestatic 48, 3) := by decide +kernel
theorem dJ2_checkBoundsBeginEnd_d044e_6 : decode cJ2_checkBoundsBeginEnd_d044e 6 = .ok (.invokestatic 241, 3) := by decide +kernel
theorem dJ2_checkBoundsBeginEnd_d044e_9 : decode cJ2_checkBoundsBeginEnd_d044e 9 = .ok (.return_, 1) := by decide +kernel
theorem dJ2_checkBoundsOffCount_d044e_0 : decode cJ2_checkBoundsOffCount_d044e 0 = .ok (.iload_n 0, 1) := by decide +kernel
theorem dJ2_checkBoundsOffCount_d044e_1 : decode cJ2_checkBoundsOffCount_d044e 1 = .ok (.iload_n 1, 1) := by decide +kernel
theorem dJ2_checkBoundsOffCount_d044e_2 : decode cJ2_checkBoundsOffCount_d044e 2 = .ok (.aload_n 2, 1) := by decide +kernel
theorem dJ2_checkBoundsOffCount_d044e_3 : decode cJ2_checkBoundsOffCount_d044e 3 = .ok (.invokestatic 48, 3) := by decide +kernel
theorem dJ2_checkBoundsOffCount_d044e_6 : decode cJ2_checkBoundsOffCount_d044e 6 = .ok (.invokestatic 419, 3) := by decide +kernel
theorem dJ2_checkBoundsOffCount_d044e_9 : decode cJ2_checkBoundsOffCount_d044e 9 = .ok (.pop, 1) := by decide +kernel
theorem dJ2_checkBoundsOffCount_d044e_10 : decode cJ2_checkBoundsOffCount_d044e 10 = .ok (.return_, 1) := by decide +kernel
theorem dJ7_copyOf_9075b_0 : decode cJ7_copyOf_9075b 0 = .ok (.iload_n 1, 1) := by decide +kernel
theorem dJ7_copyOf_9075b_1 : decode cJ7_copyOf_9075b 1 = .ok (.aload_n 0, 1) := by decide +kernel
theorem dJ7_copyOf_9075b_2 : decode cJ7_copyOf_9075b 2 = .ok (.arraylength, 1) := by decide +kernel
theorem dJ7_copyOf_9075b_3 : decode cJ7_copyOf_9075b 3 = .ok (.if_icmp .ne 11, 3) := by decide +kernel
theorem dJ7_copyOf_9075b_6 : decode cJ7_copyOf_9075b 6 = .ok (.aload_n 0, 1) := by decide +kernel
theorem dJ7_copyOf_9075b_7 : decode cJ7_copyOf_9075b 7 = .ok (.invokevirtual 310, 3) := by decide +kernel
theorem dJ7_copyOf_9075b_10 : decode cJ7_copyOf_9075b 10 = .ok (.checkcast 311, 3) := by decide +kernel
theorem dJ7_copyOf_9075b_13 : decode cJ7_copyOf_9075b 13 = .ok (.areturn, 1) := by decide +kernel
theorem dJ7_copyOf_9075b_14 : decode cJ7_copyOf_9075b 14 = .ok (.iload_n 1, 1) := by decide +kernel
theorem dJ7_copyOf_9075b_15 : decode cJ7_copyOf_9075b 15 = .ok (.newarray .byte, 2) := by decide +kernel
theorem dJ7_copyOf_9075b_17 : decode cJ7_copyOf_9075b 17 = .ok (.astore_n 2, 1) := by decide +kernel
theorem dJ7_copyOf_9075b_18 : decode cJ7_copyOf_9075b 18 = .ok (.aload_n 0, 1) := by decide +kernel
theorem dJ7_copyOf_9075b_19 : decode cJ7_copyOf_9075b 19 = .ok (.iconst 0, 1) := by decide +kernel
theorem dJ7_copyOf_9075b_20 : decode cJ7_copyOf_9075b 20 = .ok (.aload_n 2, 1) := by decide +kernel
theorem dJ7_copyOf_9075b_21 : decode cJ7_copyOf_9075b 21 = .ok (.iconst 0, 1) := by decide +kernel
theorem dJ7_copyOf_9075b_22 : decode cJ7_copyOf_9075b 22 = .ok (.aload_n 0, 1) := by decide +kernel
theorem dJ7_copyOf_9075b_23 : decode cJ7_copyOf_9075b 23 = .ok (.arraylength, 1) := by decide +kernel
theorem dJ7_copyOf_9075b_24 : decode cJ7_copyOf_9075b 24 = .ok (.iload_n 1, 1) := by decide +kernel
theorem dJ7_copyOf_9075b_25 : decode cJ7_copyOf_9075b 25 = .ok (.invokestatic 304, 3) := by decide +kernel
theorem dJ7_copyOf_9075b_28 : decode cJ7_copyOf_9075b 28 = .ok (.invokestatic 150, 3) := by decide +kernel
theorem dJ7_copyOf_9075b_31 : decode cJ7_copyOf_9075b 31 = .ok (.aload_n 2, 1) := by decide +kernel
theorem dJ7_copyOf_9075b_32 : decode cJ7_copyOf_9075b 32 = .ok (.areturn, 1) := by decide +kernel
theorem dJ7_checkLength_df160_0 : decode cJ7_checkLength_df160 0 = .ok (.iload_n 1, 1) := by decide +kernel
theorem dJ7_checkLength_df160_1 : decode cJ7_checkLength_df160 1 = .ok (.iload_n 0, 1) := by decide +kernel
theorem dJ7_checkLength_df160_2 : decode cJ7_checkLength_df160 2 = .ok (.if_icmp .ge 35, 3) := by decide +kernel
theorem dJ7_checkLength_df160_5 : decode cJ7_checkLength_df160 5 = .ok (.new 43, 3) := by decide +kernel
theorem dJ7_checkLength_df160_8 : decode cJ7_checkLength_df160 8 = .ok (.dup, 1) := by decide +kernel
theorem dJ7_checkLength_df160_9 : decode cJ7_checkLength_df160 9 = .ok (.new 45, 3) := by decide +kernel
theorem dJ7_checkLength_df160_12 : decode cJ7_checkLength_df160 12 = .ok (.dup, 1) := by decide +kernel
theorem dJ7_checkLength_df160_13 : decode cJ7_checkLength_df160 13 = .ok (.invokespecial 47, 3) := by decide +kernel
theorem dJ7_checkLength_df160_16 : decode cJ7_checkLength_df160 16 = .ok (.iload_n 0, 1) := by decide +kernel
theorem dJ7_checkLength_df160_17 : decode cJ7_checkLength_df160 17 = .ok (.invokevirtual 54, 3) := by decide +kernel
theorem dJ7_checkLength_df160_20 : decode cJ7_checkLength_df160 20 = .ok (.ldc_w 337, 3) := by decide +kernel
theorem dJ7_checkLength_df160_23 : decode cJ7_checkLength_df160 23 = .ok (.invokevirtual 50, 3) := by decide +kernel
theorem dJ7_checkLength_df160_26 : decode cJ7_checkLength_df160 26 = .ok (.iload_n 1, 1) := by decide +kernel
theorem dJ7_checkLength_df160_27 : decode cJ7_checkLength_df160 27 = .ok (.invokevirtual 54, 3) := by decide +kernel
theorem dJ7_checkLength_df160_30 : decode cJ7_checkLength_df160 30 = .ok (.invokevirtual 61, 3) := by decide +kernel
theorem dJ7_checkLength_df160_33 : decode cJ7_checkLength_df160 33 = .ok (.invokespecial 65, 3) := by decide +kernel
theorem dJ7_checkLength_df160_36 : decode cJ7_checkLength_df160 36 = .ok (.athrow, 1) := by decide +kernel
theorem dJ7_checkLength_df160_37 : decode cJ7_checkLength_df160 37 = .ok (.return_, 1) := by decide +kernel
theorem dJ7_copyOfRange_39247_0 : decode cJ7_copyOfRange_39247 0 = .ok (.iload_n 1, 1) := by decide +kernel
theorem dJ7_copyOfRange_39247_1 : decode cJ7_copyOfRange_39247 1 = .ok (.ifCond .ne 9, 3) := by decide +kernel
theorem dJ7_copyOfRange_39247_4 : decode cJ7_copyOfRange_39247 4 = .ok (.iload_n 2, 1) := by decide +kernel
theorem dJ7_copyOfRange_39247_5 : decode cJ7_copyOfRange_39247 5 = .ok (.aload_n 0, 1) := by decide +kernel
theorem dJ7_copyOfRange_39247_6 : decode cJ7_copyOfRange_39247 6 = .ok (.arraylength, 1) := by decide +kernel
theorem dJ7_copyOfRange_39247_7 : decode cJ7_copyOfRange_39247 7 = .ok (.if_icmp .eq 10, 3) := by decide +kernel
theorem dJ7_copyOfRange_39247_10 : decode cJ7_copyOfRange_39247 10 = .ok (.aload_n 0, 1) := by decide +kernel
theorem dJ7_copyOfRange_39247_11 : decode cJ7_copyOfRange_39247 11 = .ok (.iload_n 1, 1) := by decide +kernel
theorem dJ7_copyOfRange_39247_12 : decode cJ7_copyOfRange_39247 12 = .ok (.iload_n 2, 1) := by decide +kernel
theorem dJ7_copyOfRange_39247_13 : decode cJ7_copyOfRange_39247 13 = .ok (.invokestatic 339, 3) := by decide +kernel
theorem dJ7_copyOfRange_39247_16 : decode cJ7_copyOfRange_39247 16 = .ok (.areturn, 1) := by decide +kernel
theorem dJ7_copyOfRange_39247_17 : decode cJ7_copyOfRange_39247 17 = .ok (.aload_n 0, 1) := by decide +kernel
theorem dJ7_copyOfRange_39247_18 : decode cJ7_copyOfRange_39247 18 = .ok (.invokevirtual 310, 3) := by decide +kernel
theorem dJ7_copyOfRange_39247_21 : decode cJ7_copyOfRange_39247 21 = .ok (.checkcast 311, 3) := by decide +kernel
theorem dJ7_copyOfRange_39247_24 : decode cJ7_copyOfRange_39247 24 = .ok (.areturn, 1) := by decide +kernel
theorem dJ7_copyOfRangeByte_39247_0 : decode cJ7_copyOfRangeByte_39247 0 = .ok (.iload_n 1, 1) := by decide +kernel
theorem dJ7_copyOfRangeByte_39247_1 : decode cJ7_copyOfRangeByte_39247 1 = .ok (.iload_n 2, 1) := by decide +kernel
theorem dJ7_copyOfRangeByte_39247_2 : decode cJ7_copyOfRangeByte_39247 2 = .ok (.invokestatic 343, 3) := by decide +kernel
theorem dJ7_copyOfRangeByte_39247_5 : decode cJ7_copyOfRangeByte_39247 5 = .ok (.iload_n 2, 1) := by decide +kernel
theorem dJ7_copyOfRangeByte_39247_6 : decode cJ7_copyOfRangeByte_39247 6 = .ok (.iload_n 1, 1) := by decide +kernel
theorem dJ7_copyOfRangeByte_39247_7 : decode cJ7_copyOfRangeByte_39247 7 = .ok (.isub, 1) := by decide +kernel
theorem dJ7_copyOfRangeByte_39247_8 : decode cJ7_copyOfRangeByte_39247 8 = .ok (.istore_n 3, 1) := by decide +kernel
theorem dJ7_copyOfRangeByte_39247_9 : decode cJ7_copyOfRangeByte_39247 9 = .ok (.iload_n 3, 1) := by decide +kernel
theorem dJ7_copyOfRangeByte_39247_10 : decode cJ7_copyOfRangeByte_39247 10 = .ok (.newarray .byte, 2) := by decide +kernel
theorem dJ7_copyOfRangeByte_39247_12 : decode cJ7_copyOfRangeByte_39247 12 = .ok (.astore 4, 2) := by decide +kernel
theorem dJ7_copyOfRangeByte_39247_14 : decode cJ7_copyOfRangeByte_39247 14 = .ok (.aload_n 0, 1) := by decide +kernel
theorem dJ7_copyOfRangeByte_39247_15 : decode cJ7_copyOfRangeByte_39247 15 = .ok (.iload_n 1, 1) := by decide +kernel
theorem dJ7_copyOfRangeByte_39247_16 : decode cJ7_copyOfRangeByte_39247 16 = .ok (.aload 4, 2) := by decide +kernel
theorem dJ7_copyOfRangeByte_39247_18 : decode cJ7_copyOfRangeByte_39247 18 = .ok (.iconst 0, 1) := by decide +kernel
theorem dJ7_copyOfRangeByte_39247_19 : decode cJ7_copyOfRangeByte_39247 19 = .ok (.aload_n 0, 1) := by decide +kernel
theorem dJ7_copyOfRangeByte_39247_20 : decode cJ7_copyOfRangeByte_39247 20 = .ok (.arraylength, 1) := by decide +kernel
theorem dJ7_copyOfRangeByte_39247_21 : decode cJ7_copyOfRangeByte_39247 21 = .ok (.iload_n 1, 1) := by decide +kernel
theorem dJ7_copyOfRangeByte_39247_22 : decode cJ7_copyOfRangeByte_39247 22 = .ok (.isub, 1) := by decide +kernel
theorem dJ7_copyOfRangeByte_39247_23 : decode cJ7_copyOfRangeByte_39247 23 = .ok (.iload_n 3, 1) := by decide +kernel
theorem dJ7_copyOfRangeByte_39247_24 : decode cJ7_copyOfRangeByte_39247 24 = .ok (.invokestatic 304, 3) := by decide +kernel
theorem dJ7_copyOfRangeByte_39247_27 : decode cJ7_copyOfRangeByte_39247 27 = .ok (.invokestatic 150, 3) := by decide +kernel
theorem dJ7_copyOfRangeByte_39247_30 : decode cJ7_copyOfRangeByte_39247 30 = .ok (.aload 4, 2) := by decide +kernel
theorem dJ7_copyOfRangeByte_39247_32 : decode cJ7_copyOfRangeByte_39247 32 = .ok (.areturn, 1) := by decide +kernel
theorem dJ8_newLength_cabcc_0 : decode cJ8_newLength_cabcc 0 = .ok (.iload_n 0, 1) := by decide +kernel
theorem dJ8_newLength_cabcc_1 : decode cJ8_newLength_cabcc 1 = .ok (.iload_n 1, 1) := by decide +kernel
theorem dJ8_newLength_cabcc_2 : decode cJ8_newLength_cabcc 2 = .ok (.iload_n 2, 1) := by decide +kernel
theorem dJ8_newLength_cabcc_3 : decode cJ8_newLength_cabcc 3 = .ok (.invokestatic 194, 3) := by decide +kernel
theorem dJ8_newLength_cabcc_6 : decode cJ8_newLength_cabcc 6 = .ok (.iadd, 1) := by decide +kernel
theorem dJ8_newLength_cabcc_7 : decode cJ8_newLength_cabcc 7 = .ok (.istore_n 3, 1) := by decide +kernel
theorem dJ8_newLength_cabcc_8 : decode cJ8_newLength_cabcc 8 = .ok (.iconst 0, 1) := by decide +kernel
theorem dJ8_newLength_cabcc_9 : decode cJ8_newLength_cabcc 9 = .ok (.iload_n 3, 1) := by decide +kernel
theorem dJ8_newLength_cabcc_10 : decode cJ8_newLength_cabcc 10 = .ok (.if_icmp .ge 11, 3) := by decide +kernel
theorem dJ8_newLength_cabcc_13 : decode cJ8_newLength_cabcc 13 = .ok (.iload_n 3, 1) := by decide +kernel
theorem dJ8_newLength_cabcc_14 : decode cJ8_newLength_cabcc 14 = .ok (.ldc 200, 2) := by decide +kernel
theorem dJ8_newLength_cabcc_16 : decode cJ8_newLength_cabcc 16 = .ok (.if_icmp .gt 5, 3) := by decide +kernel
theorem dJ8_newLength_cabcc_19 : decode cJ8_newLength_cabcc 19 = .ok (.iload_n 3, 1) := by decide +kernel
theorem dJ8_newLength_cabcc_20 : decode cJ8_newLength_cabcc 20 = .ok (.ireturn, 1) := by decide +kernel
theorem dJ8_newLength_cabcc_21 : decode cJ8_newLength_cabcc 21 = .ok (.iload_n 0, 1) := by decide +kernel
theorem dJ8_newLength_cabcc_22 : decode cJ8_newLength_cabcc 22 = .ok (.iload_n 1, 1) := by decide +kernel
theorem dJ8_newLength_cabcc_23 : decode cJ8_newLength_cabcc 23 = .ok (.invokestatic 201, 3) := by decide +kernel
theorem dJ8_newLength_cabcc_26 : decode cJ8_newLength_cabcc 26 = .ok (.ireturn, 1) := by decide +kernel
theorem dJ8_hugeLength_7cf53_0 : decode cJ8_hugeLength_7cf53 0 = .ok (.iload_n 0, 1) := by decide +kernel
theorem dJ8_hugeLength_7cf53_1 : decode cJ8_hugeLength_7cf53 1 = .ok (.iload_n 1, 1) := by decide +kernel
theorem dJ8_hugeLength_7cf53_2 : decode cJ8_hugeLength_7cf53 2 = .ok (.iadd, 1) := by decide +kernel
theorem dJ8_hugeLength_7cf53_3 : decode cJ8_hugeLength_7cf53 3 = .ok (.istore_n 2, 1) := by decide +kernel
theorem dJ8_hugeLength_7cf53_4 : decode cJ8_hugeLength_7cf53 4 = .ok (.iload_n 2, 1) := by decide +kernel
theorem dJ8_hugeLength_7cf53_5 : decode cJ8_hugeLength_7cf53 5 = .ok (.ifCond .ge 44, 3) := by decide +kernel
theorem dJ8_hugeLength_7cf53_8 : decode cJ8_hugeLength_7cf53 8 = .ok (.new 204, 3) := by decide +kernel
theorem dJ8_hugeLength_7cf53_11 : decode cJ8_hugeLength_7cf53 11 = .ok (.dup, 1) := by decide +kernel
theorem dJ8_hugeLength_7cf53_12 : decode cJ8_hugeLength_7cf53 12 = .ok (.new 89, 3) := by decide +kernel
theorem dJ8_hugeLength_7cf53_15 : decode cJ8_hugeLength_7cf53 15 = .ok (.dup, 1) := by decide +kernel
theorem dJ8_hugeLength_7cf53_16 : decode cJ8_hugeLength_7cf53 16 = .ok (.invokespecial 91, 3) := by decide +kernel
theorem dJ8_hugeLength_7cf53_19 : decode cJ8_hugeLength_7cf53 19 = .ok (.ldc 206, 2) := by decide +kernel
theorem dJ8_hugeLength_7cf53_21 : decode cJ8_hugeLength_7cf53 21 = .ok (.invokevirtual 94, 3) := by decide +kernel
theorem dJ8_hugeLength_7cf53_24 : decode cJ8_hugeLength_7cf53 24 = .ok (.iload_n 0, 1) := by decide +kernel
theorem dJ8_hugeLength_7cf53_25 : decode cJ8_hugeLength_7cf53 25 = .ok (.invokevirtual 98, 3) := by decide +kernel
theorem dJ8_hugeLength_7cf53_28 : decode cJ8_hugeLength_7cf53 28 = .ok (.ldc 208, 2) := by decide +kernel
theorem dJ8_hugeLength_7cf53_30 : decode cJ8_hugeLength_7cf53 30 = .ok (.invokevirtual 94, 3) := by decide +kernel
theorem dJ8_hugeLength_7cf53_33 : decode cJ8_hugeLength_7cf53 33 = .ok (.iload_n 1, 1) := by decide +kernel
theorem dJ8_hugeLength_7cf53_34 : decode cJ8_hugeLength_7cf53 34 = .ok (.invokevirtual 98, 3) := by decide +kernel
theorem dJ8_hugeLength_7cf53_37 : decode cJ8_hugeLength_7cf53 37 = .ok (.ldc 210, 2) := by decide +kernel
theorem dJ8_hugeLength_7cf53_39 : decode cJ8_hugeLength_7cf53 39 = .ok (.invokevirtual 94, 3) := by decide +kernel
theorem dJ8_hugeLength_7cf53_42 : decode cJ8_hugeLength_7cf53 42 = .ok (.invokevirtual 101, 3) := by decide +kernel
theorem dJ8_hugeLength_7cf53_45 : decode cJ8_hugeLength_7cf53 45 = .ok (.invokespecial 212, 3) := by decide +kernel
theorem dJ8_hugeLength_7cf53_48 : decode cJ8_hugeLength_7cf53 48 = .ok (.athrow, 1) := by decide +kernel
theorem dJ8_hugeLength_7cf53_49 : decode cJ8_hugeLength_7cf53 49 = .ok (.iload_n 2, 1) := by decide +kernel
theorem dJ8_hugeLength_7cf53_50 : decode cJ8_hugeLength_7cf53 50 = .ok (.ldc 200, 2) := by decide +kernel
theorem dJ8_hugeLength_7cf53_52 : decode cJ8_hugeLength_7cf53 52 = .ok (.if_icmp .gt 6, 3) := by decide +kernel
theorem dJ8_hugeLength_7cf53_55 : decode cJ8_hugeLength_7cf53 55 = .ok (.ldc 200, 2) := by decide +kernel
theorem dJ8_hugeLength_7cf53_57 : decode cJ8_hugeLength_7cf53 57 = .ok (.ireturn, 1) := by decide +kernel
theorem dJ8_hugeLength_7cf53_58 : decode cJ8_hugeLength_7cf53 58 = .ok (.iload_n 2, 1) := by decide +kernel
theorem dJ8_hugeLength_7cf53_59 : decode cJ8_hugeLength_7cf53 59 = .ok (.ireturn, 1) := by decide +kernel
theorem dJ3_checkIndex_8e157_0 : decode cJ3_checkIndex_8e157 0 = .ok (.iload_n 0, 1) := by decide +kernel
theorem dJ3_checkIndex_8e157_1 : decode cJ3_checkIndex_8e157 1 = .ok (.ifCond .lt 8, 3) := by decide +kernel
theorem dJ3_checkIndex_8e157_4 : decode cJ3_checkIndex_8e157 4 = .ok (.iload_n 0, 1) := by decide +kernel
theorem dJ3_checkIndex_8e157_5 : decode cJ3_checkIndex_8e157 5 = .ok (.iload_n 1, 1) := by decide +kernel
theorem dJ3_checkIndex_8e157_6 : decode cJ3_checkIndex_8e157 6 = .ok (.if_icmp .lt 10, 3) := by decide +kernel
theorem dJ3_checkIndex_8e157_9 : decode cJ3_checkIndex_8e157 9 = .ok (.aload_n 2, 1) := by decide +kernel
theorem dJ3_checkIndex_8e157_10 : decode cJ3_checkIndex_8e157 10 = .ok (.iload_n 0, 1) := by decide +kernel
theorem dJ3_checkIndex_8e157_11 : decode cJ3_checkIndex_8e157 11 = .ok (.iload_n 1, 1) := by decide +kernel
theorem dJ3_checkIndex_8e157_12 : decode cJ3_checkIndex_8e157 12 = .ok (.invokestatic 95, 3) := by decide +kernel
theorem dJ3_checkIndex_8e157_15 : decode cJ3_checkIndex_8e157 15 = .ok (.athrow, 1) := by decide +kernel
theorem dJ3_checkIndex_8e157_16 : decode cJ3_checkIndex_8e157 16 = .ok (.iload_n 0, 1) := by decide +kernel
theorem dJ3_checkIndex_8e157_17 : decode cJ3_checkIndex_8e157 17 = .ok (.ireturn, 1) := by decide +kernel
theorem dJ3_checkFromToIndex_8c36e_0 : decode cJ3_checkFromToIndex_8c36e 0 = .ok (.iload_n 0, 1) := by decide +kernel
theorem dJ3_checkFromToIndex_8c36e_1 : decode cJ3_checkFromToIndex_8c36e 1 = .ok (.ifCond .lt 13, 3) := by decide +kernel
theorem dJ3_checkFromToIndex_8c36e_4 : decode cJ3_checkFromToIndex_8c36e 4 = .ok (.iload_n 0, 1) := by decide +kernel
theorem dJ3_checkFromToIndex_8c36e_5 : decode cJ3_checkFromToIndex_8c36e 5 = .ok (.iload_n 1, 1) := by decide +kernel
theorem dJ3_checkFromToIndex_8c36e_6 : decode cJ3_checkFromToIndex_8c36e 6 = .ok (.if_icmp .gt 8, 3) := by decide +kernel
theorem dJ3_checkFromToIndex_8c36e_9 : decode cJ3_checkFromToIndex_8c36e 9 = .ok (.iload_n 1, 1) := by decide +kernel
theorem dJ3_checkFromToIndex_8c36e_10 : decode cJ3_checkFromToIndex_8c36e 10 = .ok (.iload_n 2, 1) := by decide +kernel
theorem dJ3_checkFromToIndex_8c36e_11 : decode cJ3_checkFromToIndex_8c36e 11 = .ok (.if_icmp .le 11, 3) := by decide +kernel
theorem dJ3_checkFromToIndex_8c36e_14 : decode cJ3_checkFromToIndex_8c36e 14 = .ok (.aload_n 3, 1) := by decide +kernel
theorem dJ3_checkFromToIndex_8c36e_15 : decode cJ3_checkFromToIndex_8c36e 15 = .ok (.iload_n 0, 1) := by decide +kernel
theorem dJ3_checkFromToIndex_8c36e_16 : decode cJ3_checkFromToIndex_8c36e 16 = .ok (.iload_n 1, 1) := by decide +kernel
theorem dJ3_checkFromToIndex_8c36e_17 : decode cJ3_checkFromToIndex_8c36e 17 = .ok (.iload_n 2, 1) := by decide +kernel
theorem dJ3_checkFromToIndex_8c36e_18 : decode cJ3_checkFromToIndex_8c36e 18 = .ok (.invokestatic 99, 3) := by decide +kernel
theorem dJ3_checkFromToIndex_8c36e_21 : decode cJ3_checkFromToIndex_8c36e 21 = .ok (.athrow, 1) := by decide +kernel
theorem dJ3_checkFromToIndex_8c36e_22 : decode cJ3_checkFromToIndex_8c36e 22 = .ok (.iload_n 0, 1) := by decide +kernel
theorem dJ3_checkFromToIndex_8c36e_23 : decode cJ3_checkFromToIndex_8c36e 23 = .ok (.ireturn, 1) := by decide +kernel
theorem dJ3_checkFromIndexSize_8c36e_0 : decode cJ3_checkFromIndexSize_8c36e 0 = .ok (.iload_n 2, 1) := by decide +kernel
theorem dJ3_checkFromIndexSize_8c36e_1 : decode cJ3_checkFromIndexSize_8c36e 1 = .ok (.iload_n 0, 1) := by decide +kernel
theorem dJ3_checkFromIndexSize_8c36e_2 : decode cJ3_checkFromIndexSize_8c36e 2 = .ok (.ior, 1) := by decide +kernel
theorem dJ3_checkFromIndexSize_8c36e_3 : decode cJ3_checkFromIndexSize_8c36e 3 = .ok (.iload_n 1, 1) := by decide +kernel
theorem dJ3_checkFromIndexSize_8c36e_4 : decode cJ3_checkFromIndexSize_8c36e 4 = .ok (.ior, 1) := by decide +kernel
theorem dJ3_checkFromIndexSize_8c36e_5 : decode cJ3_checkFromIndexSize_8c36e 5 = .ok (.ifCond .lt 10, 3) := by decide +kernel
theorem dJ3_checkFromIndexSize_8c36e_8 : decode cJ3_checkFromIndexSize_8c36e 8 = .ok (.iload_n 1, 1) := by decide +kernel
theorem dJ3_checkFromIndexSize_8c36e_9 : decode cJ3_checkFromIndexSize_8c36e 9 = .ok (.iload_n 2, 1) := by decide +kernel
theorem dJ3_checkFromIndexSize_8c36e_10 : decode cJ3_checkFromIndexSize_8c36e 10 = .ok (.iload_n 0, 1) := by decide +kernel
theorem dJ3_checkFromIndexSize_8c36e_11 : decode cJ3_checkFromIndexSize_8c36e 11 = .ok (.isub, 1) := by decide +kernel
theorem dJ3_checkFromIndexSize_8c36e_12 : decode cJ3_checkFromIndexSize_8c36e 12 = .ok (.if_icmp .le 11, 3) := by decide +kernel
theorem dJ3_checkFromIndexSize_8c36e_15 : decode cJ3_checkFromIndexSize_8c36e 15 = .ok (.aload_n 3, 1) := by decide +kernel
theorem dJ3_checkFromIndexSize_8c36e_16 : decode cJ3_checkFromIndexSize_8c36e 16 = .ok (.iload_n 0, 1) := by decide +kernel
theorem dJ3_checkFromIndexSize_8c36e_17 : decode cJ3_checkFromIndexSize_8c36e 17 = .ok (.iload_n 1, 1) := by decide +kernel
theorem dJ3_checkFromIndexSize_8c36e_18 : decode cJ3_checkFromIndexSize_8c36e 18 = .ok (.iload_n 2, 1) := by decide +kernel
theorem dJ3_checkFromIndexSize_8c36e_19 : decode cJ3_checkFromIndexSize_8c36e 19 = .ok (.invokestatic 103, 3) := by decide +kernel
theorem dJ3_checkFromIndexSize_8c36e_22 : decode cJ3_checkFromIndexSize_8c36e 22 = .ok (.athrow, 1) := by decide +kernel
theorem dJ3_checkFromIndexSize_8c36e_23 : decode cJ3_checkFromIndexSize_8c36e 23 = .ok (.iload_n 0, 1) := by decide +kernel
theorem dJ3_checkFromIndexSize_8c36e_24 : decode cJ3_checkFromIndexSize_8c36e 24 = .ok (.ireturn, 1) := by decide +kernel
theorem dL_init_0 : decode cL_init 0 = .ok (.aload_n 0, 1) := by decide +kernel
theorem dL_init_1 : decode cL_init 1 = .ok (.invokespecial 1, 3) := by decide +kernel
theorem dL_init_4 : decode cL_init 4 = .ok (.aload_n 0, 1) := by decide +kernel
theorem dL_init_5 : decode cL_init 5 = .ok (.iconst 5, 1) := by decide +kernel
theorem dL_init_6 : decode cL_init 6 = .ok (.newarray .int, 2) := by decide +kernel
theorem dL_init_8 : decode cL_init 8 = .ok (.putfield 7, 3) := by decide +kernel
theorem dL_init_11 : decode cL_init 11 = .ok (.aload_n 0, 1) := by decide +kernel
theorem dL_init_12 : decode cL_init 12 = .ok (.iconst 5, 1) := by decide +kernel
theorem dL_init_13 : decode cL_init 13 = .ok (.newarray .int, 2) := by decide +kernel
theorem dL_init_15 : decode cL_init 15 = .ok (.putfield 13, 3) := by decide +kernel
theorem dL_init_18 : decode cL_init 18 = .ok (.aload_n 0, 1) := by decide +kernel
theorem dL_init_19 : decode cL_init 19 = .ok (.iconst 5, 1) := by decide +kernel
theorem dL_init_20 : decode cL_init 20 = .ok (.newarray .int, 2) := by decide +kernel
theorem dL_init_22 : decode cL_init 22 = .ok (.putfield 16, 3) := by decide +kernel
theorem dL_init_25 : decode cL_init 25 = .ok (.aload_n 0, 1) := by decide +kernel
theorem dL_init_26 : decode cL_init 26 = .ok (.iconst 5, 1) := by decide +kernel
theorem dL_init_27 : decode cL_init 27 = .ok (.newarray .int, 2) := by decide +kernel
theorem dL_init_29 : decode cL_init 29 = .ok (.putfield 19, 3) := by decide +kernel
theorem dL_init_32 : decode cL_init 32 = .ok (.aload_n 0, 1) := by decide +kernel
theorem dL_init_33 : decode cL_init 33 = .ok (.iconst 5, 1) := by decide +kernel
theorem dL_init_34 : decode cL_init 34 = .ok (.newarray .int, 2) := by decide +kernel
theorem dL_init_36 : decode cL_init 36 = .ok (.putfield 22, 3) := by decide +kernel
theorem dL_init_39 : decode cL_init 39 = .ok (.aload_n 0, 1) := by decide +kernel
theorem dL_init_40 : decode cL_init 40 = .ok (.iconst 5, 1) := by decide +kernel
theorem dL_init_41 : decode cL_init 41 = .ok (.newarray .int, 2) := by decide +kernel
theorem dL_init_43 : decode cL_init 43 = .ok (.putfield 25, 3) := by decide +kernel
theorem dL_init_46 : decode cL_init 46 = .ok (.aload_n 0, 1) := by decide +kernel
theorem dL_init_47 : decode cL_init 47 = .ok (.iconst 5, 1) := by decide +kernel
theorem dL_init_48 : decode cL_init 48 = .ok (.iconst 5, 1) := by decide +kernel
theorem dL_init_49 : decode cL_init 49 = .ok (.multianewarray 28 2, 4) := by decide +kernel
theorem dL_init_53 : decode cL_init 53 = .ok (.putfield 30, 3) := by decide +kernel
theorem dL_init_56 : decode cL_init 56 = .ok (.aload_n 0, 1) := by decide +kernel
theorem dL_init_57 : decode cL_init 57 = .ok (.iconst 5, 1) := by decide +kernel
theorem dL_init_58 : decode cL_init 58 = .ok (.iconst 5, 1) := by decide +kernel
theorem dL_init_59 : decode cL_init 59 = .ok (.multianewarray 28 2, 4) := by decide +kernel
theorem dL_init_63 : decode cL_init 63 = .ok (.putfield 33, 3) := by decide +kernel
theorem dL_init_66 : decode cL_init 66 = .ok (.aload_n 0, 1) := by decide +kernel
theorem dL_init_67 : decode cL_init 67 = .ok (.bipush 30, 2) := by decide +kernel
theorem dL_init_69 : decode cL_init 69 = .ok (.newarray .int, 2) := by decide +kernel
theorem dL_init_71 : decode cL_init 71 = .ok (.putfield 36, 3) := by decide +kernel
theorem dL_init_74 : decode cL_init 74 = .ok (.aload_n 0, 1) := by decide +kernel
theorem dL_init_75 : decode cL_init 75 = .ok (.bipush 30, 2) := by decide +kernel
theorem dL_init_77 : decode cL_init 77 = .ok (.newarray .int, 2) := by decide +kernel
theorem dL_init_79 : decode cL_init 79 = .ok (.putfield 39, 3) := by decide +kernel
theorem dL_init_82 : decode cL_init 82 = .ok (.aload_n 0, 1) := by decide +kernel
theorem dL_init_83 : decode cL_init 83 = .ok (.bipush 30, 2) := by decide +kernel
theorem dL_init_85 : decode cL_init 85 = .ok (.newarray .int, 2) := by decide +kernel
theorem dL_init_87 : decode cL_init 87 = .ok (.putfield 42, 3) := by decide +kernel
theorem dL_init_90 : decode cL_init 90 = .ok (.aload_n 0, 1) := by decide +kernel
theorem dL_init_91 : decode cL_init 91 = .ok (.bipush 30, 2) := by decide +kernel
theorem dL_init_93 : decode cL_init 93 = .ok (.newarray .int, 2) := by decide +kernel
theorem dL_init_95 : decode cL_init 95 = .ok (.putfield 45, 3) := by decide +kernel
theorem dL_init_98 : decode cL_init 98 = .ok (.aload_n 0, 1) := by decide +kernel
theorem dL_init_99 : decode cL_init 99 = .ok (.bipush 30, 2) := by decide +kernel
theorem dL_init_101 : decode cL_init 101 = .ok (.newarray .int, 2) := by decide +kernel
theorem dL_init_103 : decode cL_init 103 = .ok (.putfield 48, 3) := by decide +kernel
theorem dL_init_106 : decode cL_init 106 = .ok (.aload_n 0, 1) := by decide +kernel
theorem dL_init_107 : decode cL_init 107 = .ok (.bipush 30, 2) := by decide +kernel
theorem dL_init_109 : decode cL_init 109 = .ok (.newarray .int, 2) := by decide +kernel
theorem dL_init_111 : decode cL_init 111 = .ok (.putfield 51, 3) := by decide +kernel
theorem dL_init_114 : decode cL_init 114 = .ok (.aload_n 0, 1) := by decide +kernel
theorem dL_init_115 : decode cL_init 115 = .ok (.bipush 30, 2) := by decide +kernel
theorem dL_init_117 : decode cL_init 117 = .ok (.newarray .int, 2) := by decide +kernel
theorem dL_init_119 : decode cL_init 119 = .ok (.putfield 54, 3) := by decide +kernel
theorem dL_init_122 : decode cL_init 122 = .ok (.aload_n 0, 1) := by decide +kernel
theorem dL_init_123 : decode cL_init 123 = .ok (.bipush 30, 2) := by decide +kernel
theorem dL_init_125 : decode cL_init 125 = .ok (.newarray .int, 2) := by decide +kernel
theorem dL_init_127 : decode cL_init 127 = .ok (.putfield 57, 3) := by decide +kernel
theorem dL_init_130 : decode cL_init 130 = .ok (.aload_n 0, 1) := by decide +kernel
theorem dL_init_131 : decode cL_init 131 = .ok (.bipush 30, 2) := by decide +kernel
theorem dL_init_133 : decode cL_init 133 = .ok (.newarray .int, 2) := by decide +kernel
theorem dL_init_135 : decode cL_init 135 = .ok (.putfield 60, 3) := by decide +kernel
theorem dL_init_138 : decode cL_init 138 = .ok (.aload_n 0, 1) := by decide +kernel
theorem dL_init_139 : decode cL_init 139 = .ok (.bipush 30, 2) := by decide +kernel
theorem dL_init_141 : decode cL_init 141 = .ok (.newarray .int, 2) := by decide +kernel
theorem dL_init_143 : decode cL_init 143 = .ok (.putfield 63, 3) := by decide +kernel
theorem dL_init_146 : decode cL_init 146 = .ok (.aload_n 0, 1) := by decide +kernel
theorem dL_init_147 : decode cL_init 147 = .ok (.bipush 30, 2) := by decide +kernel
theorem dL_init_149 : decode cL_init 149 = .ok (.anewarray 66, 3) := by decide +kernel
theorem dL_init_152 : decode cL_init 152 = .ok (.putfield 67, 3) := by decide +kernel
theorem dL_init_155 : decode cL_init 155 = .ok (.aload_n 0, 1) := by decide +kernel
theorem dL_init_156 : decode cL_init 156 = .ok (.bipush 30, 2) := by decide +kernel
theorem dL_init_158 : decode cL_init 158 = .ok (.anewarray 66, 3) := by decide +kernel
theorem dL_init_161 : decode cL_init 161 = .ok (.putfield 70, 3) := by decide +kernel
theorem dL_init_164 : decode cL_init 164 = .ok (.return_, 1) := by decide +kernel
theorem dL_cell_0 : decode cL_cell 0 = .ok (.iload_n 1, 1) := by decide +kernel
theorem dL_cell_1 : decode cL_cell 1 = .ok (.aload_n 0, 1) := by decide +kernel
theorem dL_cell_2 : decode cL_cell 2 = .ok (.arraylength, 1) := by decide +kernel
theorem dL_cell_3 : decode cL_cell 3 = .ok (.if_icmp .ge 9, 3) := by decide +kernel
theorem dL_cell_6 : decode cL_cell 6 = .ok (.aload_n 0, 1) := by decide +kernel
theorem dL_cell_7 : decode cL_cell 7 = .ok (.iload_n 1, 1) := by decide +kernel
theorem dL_cell_8 : decode cL_cell 8 = .ok (.iaload, 1) := by decide +kernel
theorem dL_cell_9 : decode cL_cell 9 = .ok (.goto 10, 3) := by decide +kernel
theorem dL_cell_12 : decode cL_cell 12 = .ok (.bipush 113, 2) := by decide +kernel
theorem dL_cell_14 : decode cL_cell 14 = .ok (.iload_n 1, 1) := by decide +kernel
theorem dL_cell_15 : decode cL_cell 15 = .ok (.imul, 1) := by decide +kernel
theorem dL_cell_16 : decode cL_cell 16 = .ok (.bipush 67, 2) := by decide +kernel
theorem dL_cell_18 : decode cL_cell 18 = .ok (.iadd, 1) := by decide +kernel
theorem dL_cell_19 : decode cL_cell 19 = .ok (.ireturn, 1) := by decide +kernel
theorem dL_bits_0 : decode cL_bits 0 = .ok (.iload_n 0, 1) := by decide +kernel
theorem dL_bits_1 : decode cL_bits 1 = .ok (.iload_n 1, 1) := by decide +kernel
theorem dL_bits_2 : decode cL_bits 2 = .ok (.iushr, 1) := by decide +kernel
theorem dL_bits_3 : decode cL_bits 3 = .ok (.iconst 1, 1) := by decide +kernel
theorem dL_bits_4 : decode cL_bits 4 = .ok (.iload_n 2, 1) := by decide +kernel
theorem dL_bits_5 : decode cL_bits 5 = .ok (.ishl, 1) := by decide +kernel
theorem dL_bits_6 : decode cL_bits 6 = .ok (.iconst 1, 1) := by decide +kernel
theorem dL_bits_7 : decode cL_bits 7 = .ok (.isub, 1) := by decide +kernel
theorem dL_bits_8 : decode cL_bits 8 = .ok (.iand, 1) := by decide +kernel
theorem dL_bits_9 : decode cL_bits 9 = .ok (.ireturn, 1) := by decide +kernel
theorem dL_told_0 : decode cL_told 0 = .ok (.iconst 0, 1) := by decide +kernel
theorem dL_told_1 : decode cL_told 1 = .ok (.istore_n 2, 1) := by decide +kernel
theorem dL_told_2 : decode cL_told 2 = .ok (.iload_n 2, 1) := by decide +kernel
theorem dL_told_3 : decode cL_told 3 = .ok (.aload_n 1, 1) := by decide +kernel
theorem dL_told_4 : decode cL_told 4 = .ok (.invokevirtual 73, 3) := by decide +kernel
theorem dL_told_7 : decode cL_told 7 = .ok (.if_icmp .ge 89, 3) := by decide +kernel
theorem dL_told_10 : decode cL_told 10 = .ok (.iconst 5, 1) := by decide +kernel
theorem dL_told_11 : decode cL_told 11 = .ok (.newarray .int, 2) := by decide +kernel
theorem dL_told_13 : decode cL_told 13 = .ok (.astore_n 3, 1) := by decide +kernel
theorem dL_told_14 : decode cL_told 14 = .ok (.iconst 0, 1) := by decide +kernel
theorem dL_told_15 : decode cL_told 15 = .ok (.istore 4, 2) := by decide +kernel
theorem dL_told_17 : decode cL_told 17 = .ok (.iload 4, 2) := by decide +kernel
theorem dL_told_19 : decode cL_told 19 = .ok (.bipush 20, 2) := by decide +kernel
theorem dL_told_21 : decode cL_told 21 = .ok (.if_icmp .ge 49, 3) := by decide +kernel
theorem dL_told_24 : decode cL_told 24 = .ok (.aload_n 3, 1) := by decide +kernel
theorem dL_told_25 : decode cL_told 25 = .ok (.iload 4, 2) := by decide +kernel
theorem dL_told_27 : decode cL_told 27 = .ok (.iconst 4, 1) := by decide +kernel
theorem dL_told_28 : decode cL_told 28 = .ok (.idiv, 1) := by decide +kernel
theorem dL_told_29 : decode cL_told 29 = .ok (.aload_n 3, 1) := by decide +kernel
theorem dL_told_30 : decode cL_told 30 = .ok (.iload 4, 2) := by decide +kernel
theorem dL_told_32 : decode cL_told 32 = .ok (.iconst 4, 1) := by decide +kernel
theorem dL_told_33 : decode cL_told 33 = .ok (.idiv, 1) := by decide +kernel
theorem dL_told_34 : decode cL_told 34 = .ok (.iaload, 1) := by decide +kernel
theorem dL_told_35 : decode cL_told 35 = .ok (.bipush 8, 2) := by decide +kernel
theorem dL_told_37 : decode cL_told 37 = .ok (.ishl, 1) := by decide +kernel
theorem dL_told_38 : decode cL_told 38 = .ok (.iload_n 2, 1) := by decide +kernel
theorem dL_told_39 : decode cL_told 39 = .ok (.iload 4, 2) := by decide +kernel
theorem dL_told_41 : decode cL_told 41 = .ok (.iadd, 1) := by decide +kernel
theorem dL_told_42 : decode cL_told 42 = .ok (.aload_n 1, 1) := by decide +kernel
theorem dL_told_43 : decode cL_told 43 = .ok (.invokevirtual 73, 3) := by decide +kernel
theorem dL_told_46 : decode cL_told 46 = .ok (.if_icmp .ge 14, 3) := by decide +kernel
theorem dL_told_49 : decode cL_told 49 = .ok (.aload_n 1, 1) := by decide +kernel
theorem dL_told_50 : decode cL_told 50 = .ok (.iload_n 2, 1) := by decide +kernel
theorem dL_told_51 : decode cL_told 51 = .ok (.iload 4, 2) := by decide +kernel
theorem dL_told_53 : decode cL_told 53 = .ok (.iadd, 1) := by decide +kernel
theorem dL_told_54 : decode cL_told 54 = .ok (.invokevirtual 79, 3) := by decide +kernel
theorem dL_told_57 : decode cL_told 57 = .ok (.goto 5, 3) := by decide +kernel
theorem dL_told_60 : decode cL_told 60 = .ok (.bipush 32, 2) := by decide +kernel
theorem dL_told_62 : decode cL_told 62 = .ok (.ior, 1) := by decide +kernel
theorem dL_told_63 : decode cL_told 63 = .ok (.iastore, 1) := by decide +kernel
theorem dL_told_64 : decode cL_told 64 = .ok (.iinc 4 1, 3) := by decide +kernel
theorem dL_told_67 : decode cL_told 67 = .ok (.goto (-50), 3) := by decide +kernel
theorem dL_told_70 : decode cL_told 70 = .ok (.aload_n 0, 1) := by decide +kernel
theorem dL_told_71 : decode cL_told 71 = .ok (.aload_n 3, 1) := by decide +kernel
theorem dL_told_72 : decode cL_told 72 = .ok (.iconst 0, 1) := by decide +kernel
theorem dL_told_73 : decode cL_told 73 = .ok (.iaload, 1) := by decide +kernel
theorem dL_told_74 : decode cL_told 74 = .ok (.aload_n 3, 1) := by decide +kernel
theorem dL_told_75 : decode cL_told 75 = .ok (.iconst 1, 1) := by decide +kernel
theorem dL_told_76 : decode cL_told 76 = .ok (.iaload, 1) := by decide +kernel
theorem dL_told_77 : decode cL_told 77 = .ok (.aload_n 3, 1) := by decide +kernel
theorem dL_told_78 : decode cL_told 78 = .ok (.iconst 2, 1) := by decide +kernel
theorem dL_told_79 : decode cL_told 79 = .ok (.iaload, 1) := by decide +kernel
theorem dL_told_80 : decode cL_told 80 = .ok (.aload_n 3, 1) := by decide +kernel
theorem dL_told_81 : decode cL_told 81 = .ok (.iconst 3, 1) := by decide +kernel
theorem dL_told_82 : decode cL_told 82 = .ok (.iaload, 1) := by decide +kernel
theorem dL_told_83 : decode cL_told 83 = .ok (.aload_n 3, 1) := by decide +kernel
theorem dL_told_84 : decode cL_told 84 = .ok (.iconst 4, 1) := by decide +kernel
theorem dL_told_85 : decode cL_told 85 = .ok (.iaload, 1) := by decide +kernel
theorem dL_told_86 : decode cL_told 86 = .ok (.invokevirtual 83, 3) := by decide +kernel
theorem dL_told_89 : decode cL_told 89 = .ok (.pop, 1) := by decide +kernel
theorem dL_told_90 : decode cL_told 90 = .ok (.iinc 2 20, 3) := by decide +kernel
theorem dL_told_93 : decode cL_told 93 = .ok (.goto (-91), 3) := by decide +kernel
theorem dL_told_96 : decode cL_told 96 = .ok (.aload_n 0, 1) := by decide +kernel
theorem dL_told_97 : decode cL_told 97 = .ok (.aload_n 1, 1) := by decide +kernel
theorem dL_told_98 : decode cL_told 98 = .ok (.invokevirtual 73, 3) := by decide +kernel
theorem dL_told_101 : decode cL_told 101 = .ok (.invokevirtual 89, 3) := by decide +kernel
theorem dL_told_104 : decode cL_told 104 = .ok (.pop, 1) := by decide +kernel
theorem dL_told_105 : decode cL_told 105 = .ok (.return_, 1) := by decide +kernel
theorem dL_reckon_0 : decode cL_reckon 0 = .ok (.iconst 0, 1) := by decide +kernel
theorem dL_reckon_1 : decode cL_reckon 1 = .ok (.istore_n 1, 1) := by decide +kernel
theorem dL_reckon_2 : decode cL_reckon 2 = .ok (.iload_n 1, 1) := by decide +kernel
theorem dL_reckon_3 : decode cL_reckon 3 = .ok (.aload_n 0, 1) := by decide +kernel
theorem dL_reckon_4 : decode cL_reckon 4 = .ok (.getfield 93, 3) := by decide +kernel
theorem dL_reckon_7 : decode cL_reckon 7 = .ok (.if_icmp .ge 67, 3) := by decide +kernel
theorem dL_reckon_10 : decode cL_reckon 10 = .ok (.iconst 0, 1) := by decide +kernel
theorem dL_reckon_11 : decode cL_reckon 11 = .ok (.istore_n 2, 1) := by decide +kernel
theorem dL_reckon_12 : decode cL_reckon 12 = .ok (.iload_n 2, 1) := by decide +kernel
theorem dL_reckon_13 : decode cL_reckon 13 = .ok (.aload_n 0, 1) := by decide +kernel
theorem dL_reckon_14 : decode cL_reckon 14 = .ok (.getfield 93, 3) := by decide +kernel
theorem dL_reckon_17 : decode cL_reckon 17 = .ok (.if_icmp .ge 51, 3) := by decide +kernel
theorem dL_reckon_20 : decode cL_reckon 20 = .ok (.aload_n 0, 1) := by decide +kernel
theorem dL_reckon_21 : decode cL_reckon 21 = .ok (.getfield 33, 3) := by decide +kernel
theorem dL_reckon_24 : decode cL_reckon 24 = .ok (.iload_n 1, 1) := by decide +kernel
theorem dL_reckon_25 : decode cL_reckon 25 = .ok (.aaload, 1) := by decide +kernel
theorem dL_reckon_26 : decode cL_reckon 26 = .ok (.iload_n 2, 1) := by decide +kernel
theorem dL_reckon_27 : decode cL_reckon 27 = .ok (.iload_n 1, 1) := by decide +kernel
theorem dL_reckon_28 : decode cL_reckon 28 = .ok (.iload_n 2, 1) := by decide +kernel
theorem dL_reckon_29 : decode cL_reckon 29 = .ok (.if_icmp .ne 7, 3) := by decide +kernel
theorem dL_reckon_32 : decode cL_reckon 32 = .ok (.iconst 0, 1) := by decide +kernel
theorem dL_reckon_33 : decode cL_reckon 33 = .ok (.goto 28, 3) := by decide +kernel
theorem dL_reckon_36 : decode cL_reckon 36 = .ok (.aload_n 0, 1) := by decide +kernel
theorem dL_reckon_37 : decode cL_reckon 37 = .ok (.getfield 30, 3) := by decide +kernel
theorem dL_reckon_40 : decode cL_reckon 40 = .ok (.iload_n 1, 1) := by decide +kernel
theorem dL_reckon_41 : decode cL_reckon 41 = .ok (.aaload, 1) := by decide +kernel
theorem dL_reckon_42 : decode cL_reckon 42 = .ok (.iload_n 2, 1) := by decide +kernel
theorem dL_reckon_43 : decode cL_reckon 43 = .ok (.iaload, 1) := by decide +kernel
theorem dL_reckon_44 : decode cL_reckon 44 = .ok (.ifCond .le 14, 3) := by decide +kernel
theorem dL_reckon_47 : decode cL_reckon 47 = .ok (.aload_n 0, 1) := by decide +kernel
theorem dL_reckon_48 : decode cL_reckon 48 = .ok (.getfield 30, 3) := by decide +kernel
theorem dL_reckon_51 : decode cL_reckon 51 = .ok (.iload_n 1, 1) := by decide +kernel
theorem dL_reckon_52 : decode cL_reckon 52 = .ok (.aaload, 1) := by decide +kernel
theorem dL_reckon_53 : decode cL_reckon 53 = .ok (.iload_n 2, 1) := by decide +kernel
theorem dL_reckon_54 : decode cL_reckon 54 = .ok (.iaload, 1) := by decide +kernel
theorem dL_reckon_55 : decode cL_reckon 55 = .ok (.goto 6, 3) := by decide +kernel
theorem dL_reckon_58 : decode cL_reckon 58 = .ok (.sipush 9999, 3) := by decide +kernel
theorem dL_reckon_61 : decode cL_reckon 61 = .ok (.iastore, 1) := by decide +kernel
theorem dL_reckon_62 : decode cL_reckon 62 = .ok (.iinc 2 1, 3) := by decide +kernel
theorem dL_reckon_65 : decode cL_reckon 65 = .ok (.goto (-53), 3) := by decide +kernel
theorem dL_reckon_68 : decode cL_reckon 68 = .ok (.iinc 1 1, 3) := by decide +kernel
theorem dL_reckon_71 : decode cL_reckon 71 = .ok (.goto (-69), 3) := by decide +kernel
theorem dL_reckon_74 : decode cL_reckon 74 = .ok (.iconst 0, 1) := by decide +kernel
theorem dL_reckon_75 : decode cL_reckon 75 = .ok (.istore_n 1, 1) := by decide +kernel
theorem dL_reckon_76 : decode cL_reckon 76 = .ok (.iload_n 1, 1) := by decide +kernel
theorem dL_reckon_77 : decode cL_reckon 77 = .ok (.aload_n 0, 1) := by decide +kernel
theorem dL_reckon_78 : decode cL_reckon 78 = .ok (.getfield 93, 3) := by decide +kernel
theorem dL_reckon_81 : decode cL_reckon 81 = .ok (.if_icmp .ge 77, 3) := by decide +kernel
theorem dL_reckon_84 : decode cL_reckon 84 = .ok (.iconst 0, 1) := by decide +kernel
theorem dL_reckon_85 : decode cL_reckon 85 = .ok (.istore_n 2, 1) := by decide +kernel
theorem dL_reckon_86 : decode cL_reckon 86 = .ok (.iload_n 2, 1) := by decide +kernel
theorem dL_reckon_87 : decode cL_reckon 87 = .ok (.aload_n 0, 1) := by decide +kernel
theorem dL_reckon_88 : decode cL_reckon 88 = .ok (.getfield 93, 3) := by decide +kernel
theorem dL_reckon_91 : decode cL_reckon 91 = .ok (.if_icmp .ge 61, 3) := by decide +kernel
theorem dL_reckon_94 : decode cL_reckon 94 = .ok (.iconst 0, 1) := by decide +kernel
theorem dL_reckon_95 : decode cL_reckon 95 = .ok (.istore_n 3, 1) := by decide +kernel
theorem dL_reckon_96 : decode cL_reckon 96 = .ok (.iload_n 3, 1) := by decide +kernel
theorem dL_reckon_97 : decode cL_reckon 97 = .ok (.aload_n 0, 1) := by decide +kernel
theorem dL_reckon_98 : decode cL_reckon 98 = .ok (.getfield 93, 3) := by decide +kernel
theorem dL_reckon_101 : decode cL_reckon 101 = .ok (.if_icmp .ge 45, 3) := by decide +kernel
theorem dL_reckon_104 : decode cL_reckon 104 = .ok (.aload_n 0, 1) := by decide +kernel
theorem dL_reckon_105 : decode cL_reckon 105 = .ok (.getfield 33, 3) := by decide +kernel
theorem dL_reckon_108 : decode cL_reckon 108 = .ok (.iload_n 2, 1) := by decide +kernel
theorem dL_reckon_109 : decode cL_reckon 109 = .ok (.aaload, 1) := by decide +kernel
theorem dL_reckon_110 : decode cL_reckon 110 = .ok (.iload_n 3, 1) := by decide +kernel
theorem dL_reckon_111 : decode cL_reckon 111 = .ok (.aload_n 0, 1) := by decide +kernel
theorem dL_reckon_112 : decode cL_reckon 112 = .ok (.getfield 33, 3) := by decide +kernel
theorem dL_reckon_115 : decode cL_reckon 115 = .ok (.iload_n 2, 1) := by decide +kernel
theorem dL_reckon_116 : decode cL_reckon 116 = .ok (.aaload, 1) := by decide +kernel
theorem dL_reckon_117 : decode cL_reckon 117 = .ok (.iload_n 3, 1) := by decide +kernel
theorem dL_reckon_118 : decode cL_reckon 118 = .ok (.iaload, 1) := by decide +kernel
theorem dL_reckon_119 : decode cL_reckon 119 = .ok (.aload_n 0, 1) := by decide +kernel
theorem dL_reckon_120 : decode cL_reckon 120 = .ok (.getfield 33, 3) := by decide +kernel
theorem dL_reckon_123 : decode cL_reckon 123 = .ok (.iload_n 2, 1) := by decide +kernel
theorem dL_reckon_124 : decode cL_reckon 124 = .ok (.aaload, 1) := by decide +kernel
theorem dL_reckon_125 : decode cL_reckon 125 = .ok (.iload_n 1, 1) := by decide +kernel
theorem dL_reckon_126 : decode cL_reckon 126 = .ok (.iaload, 1) := by decide +kernel
theorem dL_reckon_127 : decode cL_reckon 127 = .ok (.aload_n 0, 1) := by decide +kernel
theorem dL_reckon_128 : decode cL_reckon 128 = .ok (.getfield 33, 3) := by decide +kernel
theorem dL_reckon_131 : decode cL_reckon 131 = .ok (.iload_n 1, 1) := by decide +kernel
theorem dL_reckon_132 : decode cL_reckon 132 = .ok (.aaload, 1) := by decide +kernel
theorem dL_reckon_133 : decode cL_reckon 133 = .ok (.iload_n 3, 1) := by decide +kernel
theorem dL_reckon_134 : decode cL_reckon 134 = .ok (.iaload, 1) := by decide +kernel
theorem dL_reckon_135 : decode cL_reckon 135 = .ok (.iadd, 1) := by decide +kernel
theorem dL_reckon_136 : decode cL_reckon 136 = .ok (.invokestatic 97, 3) := by decide +kernel
theorem dL_reckon_139 : decode cL_reckon 139 = .ok (.iastore, 1) := by decide +kernel
theorem dL_reckon_140 : decode cL_reckon 140 = .ok (.iinc 3 1, 3) := by decide +kernel
theorem dL_reckon_143 : decode cL_reckon 143 = .ok (.goto (-47), 3) := by decide +kernel
theorem dL_reckon_146 : decode cL_reckon 146 = .ok (.iinc 2 1, 3) := by decide +kernel
theorem dL_reckon_149 : decode cL_reckon 149 = .ok (.goto (-63), 3) := by decide +kernel
theorem dL_reckon_152 : decode cL_reckon 152 = .ok (.iinc 1 1, 3) := by decide +kernel
theorem dL_reckon_155 : decode cL_reckon 155 = .ok (.goto (-79), 3) := by decide +kernel
theorem dL_reckon_158 : decode cL_reckon 158 = .ok (.return_, 1) := by decide +kernel
theorem dL_next_0 : decode cL_next 0 = .ok (.iconst 0, 1) := by decide +kernel
theorem dL_next_1 : decode cL_next 1 = .ok (.istore_n 3, 1) := by decide +kernel
theorem dL_next_2 : decode cL_next 2 = .ok (.iload_n 3, 1) := by decide +kernel
theorem dL_next_3 : decode cL_next 3 = .ok (.aload_n 0, 1) := by decide +kernel
theorem dL_next_4 : decode cL_next 4 = .ok (.getfield 93, 3) := by decide +kernel
theorem dL_next_7 : decode cL_next 7 = .ok (.if_icmp .ge 69, 3) := by decide +kernel
theorem dL_next_10 : decode cL_next 10 = .ok (.iload_n 1, 1) := by decide +kernel
theorem dL_next_11 : decode cL_next 11 = .ok (.iload_n 2, 1) := by decide +kernel
theorem dL_next_12 : decode cL_next 12 = .ok (.if_icmp .eq 64, 3) := by decide +kernel
theorem dL_next_15 : decode cL_next 15 = .ok (.aload_n 0, 1) := by decide +kernel
theorem dL_next_16 : decode cL_next 16 = .ok (.getfield 33, 3) := by decide +kernel
theorem dL_next_19 : decode cL_next 19 = .ok (.iload_n 1, 1) := by decide +kernel
theorem dL_next_20 : decode cL_next 20 = .ok (.aaload, 1) := by decide +kernel
theorem dL_next_21 : decode cL_next 21 = .ok (.iload_n 2, 1) := by decide +kernel
theorem dL_next_22 : decode cL_next 22 = .ok (.iaload, 1) := by decide +kernel
theorem dL_next_23 : decode cL_next 23 = .ok (.sipush 9999, 3) := by decide +kernel
theorem dL_next_26 : decode cL_next 26 = .ok (.if_icmp .ge 50, 3) := by decide +kernel
theorem dL_next_29 : decode cL_next 29 = .ok (.aload_n 0, 1) := by decide +kernel
theorem dL_next_30 : decode cL_next 30 = .ok (.getfield 30, 3) := by decide +kernel
theorem dL_next_33 : decode cL_next 33 = .ok (.iload_n 1, 1) := by decide +kernel
theorem dL_next_34 : decode cL_next 34 = .ok (.aaload, 1) := by decide +kernel
theorem dL_next_35 : decode cL_next 35 = .ok (.iload_n 3, 1) := by decide +kernel
theorem dL_next_36 : decode cL_next 36 = .ok (.iaload, 1) := by decide +kernel
theorem dL_next_37 : decode cL_next 37 = .ok (.ifCond .le 33, 3) := by decide +kernel
theorem dL_next_40 : decode cL_next 40 = .ok (.aload_n 0, 1) := by decide +kernel
theorem dL_next_41 : decode cL_next 41 = .ok (.getfield 30, 3) := by decide +kernel
theorem dL_next_44 : decode cL_next 44 = .ok (.iload_n 1, 1) := by decide +kernel
theorem dL_next_45 : decode cL_next 45 = .ok (.aaload, 1) := by decide +kernel
theorem dL_next_46 : decode cL_next 46 = .ok (.iload_n 3, 1) := by decide +kernel
theorem dL_next_47 : decode cL_next 47 = .ok (.iaload, 1) := by decide +kernel
theorem dL_next_48 : decode cL_next 48 = .ok (.aload_n 0, 1) := by decide +kernel
theorem dL_next_49 : decode cL_next 49 = .ok (.getfield 33, 3) := by decide +kernel
theorem dL_next_52 : decode cL_next 52 = .ok (.iload_n 3, 1) := by decide +kernel
theorem dL_next_53 : decode cL_next 53 = .ok (.aaload, 1) := by decide +kernel
theorem dL_next_54 : decode cL_next 54 = .ok (.iload_n 2, 1) := by decide +kernel
theorem dL_next_55 : decode cL_next 55 = .ok (.iaload, 1) := by decide +kernel
theorem dL_next_56 : decode cL_next 56 = .ok (.iadd, 1) := by decide +kernel
theorem dL_next_57 : decode cL_next 57 = .ok (.aload_n 0, 1) := by decide +kernel
theorem dL_next_58 : decode cL_next 58 = .ok (.getfield 33, 3) := by decide +kernel
theorem dL_next_61 : decode cL_next 61 = .ok (.iload_n 1, 1) := by decide +kernel
theorem dL_next_62 : decode cL_next 62 = .ok (.aaload, 1) := by decide +kernel
theorem dL_next_63 : decode cL_next 63 = .ok (.iload_n 2, 1) := by decide +kernel
theorem dL_next_64 : decode cL_next 64 = .ok (.iaload, 1) := by decide +kernel
theorem dL_next_65 : decode cL_next 65 = .ok (.if_icmp .ne 5, 3) := by decide +kernel
theorem dL_next_68 : decode cL_next 68 = .ok (.iload_n 3, 1) := by decide +kernel
theorem dL_next_69 : decode cL_next 69 = .ok (.ireturn, 1) := by decide +kernel
theorem dL_next_70 : decode cL_next 70 = .ok (.iinc 3 1, 3) := by decide +kernel
theorem dL_next_73 : decode cL_next 73 = .ok (.goto (-71), 3) := by decide +kernel
theorem dL_next_76 : decode cL_next 76 = .ok (.iconst (-1), 1) := by decide +kernel
theorem dL_next_77 : decode cL_next 77 = .ok (.ireturn, 1) := by decide +kernel
theorem dL_bars_0 : decode cL_bars 0 = .ok (.aload_n 0, 1) := by decide +kernel
theorem dL_bars_1 : decode cL_bars 1 = .ok (.getfield 67, 3) := by decide +kernel
theorem dL_bars_4 : decode cL_bars 4 = .ok (.iload_n 1, 1) := by decide +kernel
theorem dL_bars_5 : decode cL_bars 5 = .ok (.aaload, 1) := by decide +kernel
theorem dL_bars_6 : decode cL_bars 6 = .ok (.arraylength, 1) := by decide +kernel
theorem dL_bars_7 : decode cL_bars 7 = .ok (.iconst 3, 1) := by decide +kernel
theorem dL_bars_8 : decode cL_bars 8 = .ok (.iadd, 1) := by decide +kernel
theorem dL_bars_9 : decode cL_bars 9 = .ok (.iconst 4, 1) := by decide +kernel
theorem dL_bars_10 : decode cL_bars 10 = .ok (.idiv, 1) := by decide +kernel
theorem dL_bars_11 : decode cL_bars 11 = .ok (.ireturn, 1) := by decide +kernel
theorem dL_isRight_0 : decode cL_isRight 0 = .ok (.iconst 0, 1) := by decide +kernel
theorem dL_isRight_1 : decode cL_isRight 1 = .ok (.istore_n 2, 1) := by decide +kernel
theorem dL_isRight_2 : decode cL_isRight 2 = .ok (.iload_n 2, 1) := by decide +kernel
theorem dL_isRight_3 : decode cL_isRight 3 = .ok (.aload_n 0, 1) := by decide +kernel
theorem dL_isRight_4 : decode cL_isRight 4 = .ok (.getfield 67, 3) := by decide +kernel
theorem dL_isRight_7 : decode cL_isRight 7 = .ok (.iload_n 1, 1) := by decide +kernel
theorem dL_isRight_8 : decode cL_isRight 8 = .ok (.aaload, 1) := by decide +kernel
theorem dL_isRight_9 : decode cL_isRight 9 = .ok (.arraylength, 1) := by decide +kernel
theorem dL_isRight_10 : decode cL_isRight 10 = .ok (.if_icmp .ge 30, 3) := by decide +kernel
theorem dL_isRight_13 : decode cL_isRight 13 = .ok (.aload_n 0, 1) := by decide +kernel
theorem dL_isRight_14 : decode cL_isRight 14 = .ok (.getfield 67, 3) := by decide +kernel
theorem dL_isRight_17 : decode cL_isRight 17 = .ok (.iload_n 1, 1) := by decide +kernel
theorem dL_isRight_18 : decode cL_isRight 18 = .ok (.aaload, 1) := by decide +kernel
theorem dL_isRight_19 : decode cL_isRight 19 = .ok (.iload_n 2, 1) := by decide +kernel
theorem dL_isRight_20 : decode cL_isRight 20 = .ok (.iaload, 1) := by decide +kernel
theorem dL_isRight_21 : decode cL_isRight 21 = .ok (.aload_n 0, 1) := by decide +kernel
theorem dL_isRight_22 : decode cL_isRight 22 = .ok (.getfield 70, 3) := by decide +kernel
theorem dL_isRight_25 : decode cL_isRight 25 = .ok (.iload_n 1, 1) := by decide +kernel
theorem dL_isRight_26 : decode cL_isRight 26 = .ok (.aaload, 1) := by decide +kernel
theorem dL_isRight_27 : decode cL_isRight 27 = .ok (.iload_n 2, 1) := by decide +kernel
theorem dL_isRight_28 : decode cL_isRight 28 = .ok (.iaload, 1) := by decide +kernel
theorem dL_isRight_29 : decode cL_isRight 29 = .ok (.if_icmp .eq 5, 3) := by decide +kernel
theorem dL_isRight_32 : decode cL_isRight 32 = .ok (.iconst 0, 1) := by decide +kernel
theorem dL_isRight_33 : decode cL_isRight 33 = .ok (.ireturn, 1) := by decide +kernel
theorem dL_isRight_34 : decode cL_isRight 34 = .ok (.iinc 2 1, 3) := by decide +kernel
theorem dL_isRight_37 : decode cL_isRight 37 = .ok (.goto (-35), 3) := by decide +kernel
theorem dL_isRight_40 : decode cL_isRight 40 = .ok (.iconst 1, 1) := by decide +kernel
theorem dL_isRight_41 : decode cL_isRight 41 = .ok (.ireturn, 1) := by decide +kernel
theorem dL_sends_0 : decode cL_sends 0 = .ok (.aload_n 0, 1) := by decide +kernel
theorem dL_sends_1 : decode cL_sends 1 = .ok (.getfield 36, 3) := by decide +kernel
theorem dL_sends_4 : decode cL_sends 4 = .ok (.aload_n 0, 1) := by decide +kernel
theorem dL_sends_5 : decode cL_sends 5 = .ok (.getfield 103, 3) := by decide +kernel
theorem dL_sends_8 : decode cL_sends 8 = .ok (.iload_n 1, 1) := by decide +kernel
theorem dL_sends_9 : decode cL_sends 9 = .ok (.iastore, 1) := by decide +kernel
theorem dL_sends_10 : decode cL_sends 10 = .ok (.aload_n 0, 1) := by decide +kernel
theorem dL_sends_11 : decode cL_sends 11 = .ok (.getfield 39, 3) := by decide +kernel
theorem dL_sends_14 : decode cL_sends 14 = .ok (.aload_n 0, 1) := by decide +kernel
theorem dL_sends_15 : decode cL_sends 15 = .ok (.getfield 103, 3) := by decide +kernel
theorem dL_sends_18 : decode cL_sends 18 = .ok (.iload_n 2, 1) := by decide +kernel
theorem dL_sends_19 : decode cL_sends 19 = .ok (.iastore, 1) := by decide +kernel
theorem dL_sends_20 : decode cL_sends 20 = .ok (.aload_n 0, 1) := by decide +kernel
theorem dL_sends_21 : decode cL_sends 21 = .ok (.getfield 45, 3) := by decide +kernel
theorem dL_sends_24 : decode cL_sends 24 = .ok (.aload_n 0, 1) := by decide +kernel
theorem dL_sends_25 : decode cL_sends 25 = .ok (.getfield 103, 3) := by decide +kernel
theorem dL_sends_28 : decode cL_sends 28 = .ok (.iload_n 1, 1) := by decide +kernel
theorem dL_sends_29 : decode cL_sends 29 = .ok (.iastore, 1) := by decide +kernel
theorem dL_sends_30 : decode cL_sends 30 = .ok (.aload_n 0, 1) := by decide +kernel
theorem dL_sends_31 : decode cL_sends 31 = .ok (.getfield 42, 3) := by decide +kernel
theorem dL_sends_34 : decode cL_sends 34 = .ok (.aload_n 0, 1) := by decide +kernel
theorem dL_sends_35 : decode cL_sends 35 = .ok (.getfield 103, 3) := by decide +kernel
theorem dL_sends_38 : decode cL_sends 38 = .ok (.iconst 0, 1) := by decide +kernel
theorem dL_sends_39 : decode cL_sends 39 = .ok (.iastore, 1) := by decide +kernel
theorem dL_sends_40 : decode cL_sends 40 = .ok (.aload_n 0, 1) := by decide +kernel
theorem dL_sends_41 : decode cL_sends 41 = .ok (.getfield 60, 3) := by decide +kernel
theorem dL_sends_44 : decode cL_sends 44 = .ok (.aload_n 0, 1) := by decide +kernel
theorem dL_sends_45 : decode cL_sends 45 = .ok (.getfield 103, 3) := by decide +kernel
theorem dL_sends_48 : decode cL_sends 48 = .ok (.iload 4, 2) := by decide +kernel
theorem dL_sends_50 : decode cL_sends 50 = .ok (.iastore, 1) := by decide +kernel
theorem dL_sends_51 : decode cL_sends 51 = .ok (.aload_n 0, 1) := by decide +kernel
theorem dL_sends_52 : decode cL_sends 52 = .ok (.getfield 63, 3) := by decide +kernel
theorem dL_sends_55 : decode cL_sends 55 = .ok (.aload_n 0, 1) := by decide +kernel
theorem dL_sends_56 : decode cL_sends 56 = .ok (.getfield 103, 3) := by decide +kernel
theorem dL_sends_59 : decode cL_sends 59 = .ok (.iload 5, 2) := by decide +kernel
theorem dL_sends_61 : decode cL_sends 61 = .ok (.iastore, 1) := by decide +kernel
theorem dL_sends_62 : decode cL_sends 62 = .ok (.aload_n 0, 1) := by decide +kernel
theorem dL_sends_63 : decode cL_sends 63 = .ok (.getfield 67, 3) := by decide +kernel
theorem dL_sends_66 : decode cL_sends 66 = .ok (.aload_n 0, 1) := by decide +kernel
theorem dL_sends_67 : decode cL_sends 67 = .ok (.getfield 103, 3) := by decide +kernel
theorem dL_sends_70 : decode cL_sends 70 = .ok (.aload_n 3, 1) := by decide +kernel
theorem dL_sends_71 : decode cL_sends 71 = .ok (.aastore, 1) := by decide +kernel
theorem dL_sends_72 : decode cL_sends 72 = .ok (.aload_n 0, 1) := by decide +kernel
theorem dL_sends_73 : decode cL_sends 73 = .ok (.getfield 70, 3) := by decide +kernel
theorem dL_sends_76 : decode cL_sends 76 = .ok (.aload_n 0, 1) := by decide +kernel
theorem dL_sends_77 : decode cL_sends 77 = .ok (.getfield 103, 3) := by decide +kernel
theorem dL_sends_80 : decode cL_sends 80 = .ok (.aload_n 3, 1) := by decide +kernel
theorem dL_sends_81 : decode cL_sends 81 = .ok (.arraylength, 1) := by decide +kernel
theorem dL_sends_82 : decode cL_sends 82 = .ok (.newarray .int, 2) := by decide +kernel
theorem dL_sends_84 : decode cL_sends 84 = .ok (.aastore, 1) := by decide +kernel
theorem dL_sends_85 : decode cL_sends 85 = .ok (.aload_n 0, 1) := by decide +kernel
theorem dL_sends_86 : decode cL_sends 86 = .ok (.aload_n 0, 1) := by decide +kernel
theorem dL_sends_87 : decode cL_sends 87 = .ok (.getfield 103, 3) := by decide +kernel
theorem dL_sends_90 : decode cL_sends 90 = .ok (.invokevirtual 106, 3) := by decide +kernel
theorem dL_sends_93 : decode cL_sends 93 = .ok (.aload_n 0, 1) := by decide +kernel
theorem dL_sends_94 : decode cL_sends 94 = .ok (.dup, 1) := by decide +kernel
theorem dL_sends_95 : decode cL_sends 95 = .ok (.getfield 110, 3) := by decide +kernel
theorem dL_sends_98 : decode cL_sends 98 = .ok (.iload 5, 2) := by decide +kernel
theorem dL_sends_100 : decode cL_sends 100 = .ok (.iadd, 1) := by decide +kernel
theorem dL_sends_101 : decode cL_sends 101 = .ok (.putfield 110, 3) := by decide +kernel
theorem dL_sends_104 : decode cL_sends 104 = .ok (.aload_n 0, 1) := by decide +kernel
theorem dL_sends_105 : decode cL_sends 105 = .ok (.dup, 1) := by decide +kernel
theorem dL_sends_106 : decode cL_sends 106 = .ok (.getfield 103, 3) := by decide +kernel
theorem dL_sends_109 : decode cL_sends 109 = .ok (.iconst 1, 1) := by decide +kernel
theorem dL_sends_110 : decode cL_sends 110 = .ok (.iadd, 1) := by decide +kernel
theorem dL_sends_111 : decode cL_sends 111 = .ok (.putfield 103, 3) := by decide +kernel
theorem dL_sends_114 : decode cL_sends 114 = .ok (.return_, 1) := by decide +kernel
theorem dL_resets_0 : decode cL_resets 0 = .ok (.aload_n 0, 1) := by decide +kernel
theorem dL_resets_1 : decode cL_resets 1 = .ok (.getfield 67, 3) := by decide +kernel
theorem dL_resets_4 : decode cL_resets 4 = .ok (.iload_n 1, 1) := by decide +kernel
theorem dL_resets_5 : decode cL_resets 5 = .ok (.aaload, 1) := by decide +kernel
theorem dL_resets_6 : decode cL_resets 6 = .ok (.iconst 0, 1) := by decide +kernel
theorem dL_resets_7 : decode cL_resets 7 = .ok (.aload_n 0, 1) := by decide +kernel
theorem dL_resets_8 : decode cL_resets 8 = .ok (.getfield 70, 3) := by decide +kernel
theorem dL_resets_11 : decode cL_resets 11 = .ok (.iload_n 1, 1) := by decide +kernel
theorem dL_resets_12 : decode cL_resets 12 = .ok (.aaload, 1) := by decide +kernel
theorem dL_resets_13 : decode cL_resets 13 = .ok (.iconst 0, 1) := by decide +kernel
theorem dL_resets_14 : decode cL_resets 14 = .ok (.aload_n 0, 1) := by decide +kernel
theorem dL_resets_15 : decode cL_resets 15 = .ok (.getfield 67, 3) := by decide +kernel
theorem dL_resets_18 : decode cL_resets 18 = .ok (.iload_n 1, 1) := by decide +kernel
theorem dL_resets_19 : decode cL_resets 19 = .ok (.aaload, 1) := by decide +kernel
theorem dL_resets_20 : decode cL_resets 20 = .ok (.arraylength, 1) := by decide +kernel
theorem dL_resets_21 : decode cL_resets 21 = .ok (.invokestatic 113, 3) := by decide +kernel
theorem dL_resets_24 : decode cL_resets 24 = .ok (.return_, 1) := by decide +kernel
theorem dL_lands_0 : decode cL_lands 0 = .ok (.aload_n 0, 1) := by decide +kernel
theorem dL_lands_1 : decode cL_lands 1 = .ok (.getfield 67, 3) := by decide +kernel
theorem dL_lands_4 : decode cL_lands 4 = .ok (.iload_n 1, 1) := by decide +kernel
theorem dL_lands_5 : decode cL_lands 5 = .ok (.aaload, 1) := by decide +kernel
theorem dL_lands_6 : decode cL_lands 6 = .ok (.arraylength, 1) := by decide +kernel
theorem dL_lands_7 : decode cL_lands 7 = .ok (.istore_n 2, 1) := by decide +kernel
theorem dL_lands_8 : decode cL_lands 8 = .ok (.iconst 0, 1) := by decide +kernel
theorem dL_lands_9 : decode cL_lands 9 = .ok (.aload_n 0, 1) := by decide +kernel
theorem dL_lands_10 : decode cL_lands 10 = .ok (.getfield 119, 3) := by decide +kernel
theorem dL_lands_13 : decode cL_lands 13 = .ok (.aload_n 0, 1) := by decide +kernel
theorem dL_lands_14 : decode cL_lands 14 = .ok (.getfield 51, 3) := by decide +kernel
theorem dL_lands_17 : decode cL_lands 17 = .ok (.iload_n 1, 1) := by decide +kernel
theorem dL_lands_18 : decode cL_lands 18 = .ok (.iaload, 1) := by decide +kernel
theorem dL_lands_19 : decode cL_lands 19 = .ok (.imul, 1) := by decide +kernel
theorem dL_lands_20 : decode cL_lands 20 = .ok (.iconst 3, 1) := by decide +kernel
theorem dL_lands_21 : decode cL_lands 21 = .ok (.aload_n 0, 1) := by decide +kernel
theorem dL_lands_22 : decode cL_lands 22 = .ok (.getfield 13, 3) := by decide +kernel
theorem dL_lands_25 : decode cL_lands 25 = .ok (.aload_n 0, 1) := by decide +kernel
theorem dL_lands_26 : decode cL_lands 26 = .ok (.getfield 45, 3) := by decide +kernel
theorem dL_lands_29 : decode cL_lands 29 = .ok (.iload_n 1, 1) := by decide +kernel
theorem dL_lands_30 : decode cL_lands 30 = .ok (.iaload, 1) := by decide +kernel
theorem dL_lands_31 : decode cL_lands 31 = .ok (.iaload, 1) := by decide +kernel
theorem dL_lands_32 : decode cL_lands 32 = .ok (.imul, 1) := by decide +kernel
theorem dL_lands_33 : decode cL_lands 33 = .ok (.isub, 1) := by decide +kernel
theorem dL_lands_34 : decode cL_lands 34 = .ok (.invokestatic 122, 3) := by decide +kernel
theorem dL_lands_37 : decode cL_lands 37 = .ok (.bipush 10, 2) := by decide +kernel
theorem dL_lands_39 : decode cL_lands 39 = .ok (.idiv, 1) := by decide +kernel
theorem dL_lands_40 : decode cL_lands 40 = .ok (.istore_n 3, 1) := by decide +kernel
theorem dL_lands_41 : decode cL_lands 41 = .ok (.iconst 0, 1) := by decide +kernel
theorem dL_lands_42 : decode cL_lands 42 = .ok (.istore 4, 2) := by decide +kernel
theorem dL_lands_44 : decode cL_lands 44 = .ok (.iload 4, 2) := by decide +kernel
theorem dL_lands_46 : decode cL_lands 46 = .ok (.iload_n 3, 1) := by decide +kernel
theorem dL_lands_47 : decode cL_lands 47 = .ok (.iload_n 2, 1) := by decide +kernel
theorem dL_lands_48 : decode cL_lands 48 = .ok (.invokestatic 97, 3) := by decide +kernel
theorem dL_lands_51 : decode cL_lands 51 = .ok (.if_icmp .ge 65, 3) := by decide +kernel
theorem dL_lands_54 : decode cL_lands 54 = .ok (.iload_n 1, 1) := by decide +kernel
theorem dL_lands_55 : decode cL_lands 55 = .ok (.iload 4, 2) := by decide +kernel
theorem dL_lands_57 : decode cL_lands 57 = .ok (.iadd, 1) := by decide +kernel
theorem dL_lands_58 : decode cL_lands 58 = .ok (.iload_n 2, 1) := by decide +kernel
theorem dL_lands_59 : decode cL_lands 59 = .ok (.irem, 1) := by decide +kernel
theorem dL_lands_60 : decode cL_lands 60 = .ok (.istore 5, 2) := by decide +kernel
theorem dL_lands_62 : decode cL_lands 62 = .ok (.aload_n 0, 1) := by decide +kernel
theorem dL_lands_63 : decode cL_lands 63 = .ok (.getfield 70, 3) := by decide +kernel
theorem dL_lands_66 : decode cL_lands 66 = .ok (.iload_n 1, 1) := by decide +kernel
theorem dL_lands_67 : decode cL_lands 67 = .ok (.aaload, 1) := by decide +kernel
theorem dL_lands_68 : decode cL_lands 68 = .ok (.iload 5, 2) := by decide +kernel
theorem dL_lands_70 : decode cL_lands 70 = .ok (.aload_n 0, 1) := by decide +kernel
theorem dL_lands_71 : decode cL_lands 71 = .ok (.getfield 70, 3) := by decide +kernel
theorem dL_lands_74 : decode cL_lands 74 = .ok (.iload_n 1, 1) := by decide +kernel
theorem dL_lands_75 : decode cL_lands 75 = .ok (.aaload, 1) := by decide +kernel
theorem dL_lands_76 : decode cL_lands 76 = .ok (.iload 5, 2) := by decide +kernel
theorem dL_lands_78 : decode cL_lands 78 = .ok (.iaload, 1) := by decide +kernel
theorem dL_lands_79 : decode cL_lands 79 = .ok (.bipush 7, 2) := by decide +kernel
theorem dL_lands_81 : decode cL_lands 81 = .ok (.if_icmp .ne 7, 3) := by decide +kernel
theorem dL_lands_84 : decode cL_lands 84 = .ok (.iconst 0, 1) := by decide +kernel
theorem dL_lands_85 : decode cL_lands 85 = .ok (.goto 14, 3) := by decide +kernel
theorem dL_lands_88 : decode cL_lands 88 = .ok (.aload_n 0, 1) := by decide +kernel
theorem dL_lands_89 : decode cL_lands 89 = .ok (.getfield 70, 3) := by decide +kernel
theorem dL_lands_92 : decode cL_lands 92 = .ok (.iload_n 1, 1) := by decide +kernel
theorem dL_lands_93 : decode cL_lands 93 = .ok (.aaload, 1) := by decide +kernel
theorem dL_lands_94 : decode cL_lands 94 = .ok (.iload 5, 2) := by decide +kernel
theorem dL_lands_96 : decode cL_lands 96 = .ok (.iaload, 1) := by decide +kernel
theorem dL_lands_97 : decode cL_lands 97 = .ok (.iconst 1, 1) := by decide +kernel
theorem dL_lands_98 : decode cL_lands 98 = .ok (.iadd, 1) := by decide +kernel
theorem dL_lands_99 : decode cL_lands 99 = .ok (.iastore, 1) := by decide +kernel
theorem dL_lands_100 : decode cL_lands 100 = .ok (.aload_n 0, 1) := by decide +kernel
theorem dL_lands_101 : decode cL_lands 101 = .ok (.dup, 1) := by decide +kernel
theorem dL_lands_102 : decode cL_lands 102 = .ok (.getfield 125, 3) := by decide +kernel
theorem dL_lands_105 : decode cL_lands 105 = .ok (.iconst 1, 1) := by decide +kernel
theorem dL_lands_106 : decode cL_lands 106 = .ok (.iadd, 1) := by decide +kernel
theorem dL_lands_107 : decode cL_lands 107 = .ok (.putfield 125, 3) := by decide +kernel
theorem dL_lands_110 : decode cL_lands 110 = .ok (.iinc 4 1, 3) := by decide +kernel
theorem dL_lands_113 : decode cL_lands 113 = .ok (.goto (-69), 3) := by decide +kernel
theorem dL_lands_116 : decode cL_lands 116 = .ok (.aload_n 0, 1) := by decide +kernel
theorem dL_lands_117 : decode cL_lands 117 = .ok (.getfield 42, 3) := by decide +kernel
theorem dL_lands_120 : decode cL_lands 120 = .ok (.iload_n 1, 1) := by decide +kernel
theorem dL_lands_121 : decode cL_lands 121 = .ok (.iconst 0, 1) := by decide +kernel
theorem dL_lands_122 : decode cL_lands 122 = .ok (.iastore, 1) := by decide +kernel
theorem dL_lands_123 : decode cL_lands 123 = .ok (.aload_n 0, 1) := by decide +kernel
theorem dL_lands_124 : decode cL_lands 124 = .ok (.getfield 45, 3) := by decide +kernel
theorem dL_lands_127 : decode cL_lands 127 = .ok (.iload_n 1, 1) := by decide +kernel
theorem dL_lands_128 : decode cL_lands 128 = .ok (.iaload, 1) := by decide +kernel
theorem dL_lands_129 : decode cL_lands 129 = .ok (.aload_n 0, 1) := by decide +kernel
theorem dL_lands_130 : decode cL_lands 130 = .ok (.getfield 39, 3) := by decide +kernel
theorem dL_lands_133 : decode cL_lands 133 = .ok (.iload_n 1, 1) := by decide +kernel
theorem dL_lands_134 : decode cL_lands 134 = .ok (.iaload, 1) := by decide +kernel
theorem dL_lands_135 : decode cL_lands 135 = .ok (.if_icmp .eq 4, 3) := by decide +kernel
theorem dL_lands_138 : decode cL_lands 138 = .ok (.return_, 1) := by decide +kernel
theorem dL_lands_139 : decode cL_lands 139 = .ok (.aload_n 0, 1) := by decide +kernel
theorem dL_lands_140 : decode cL_lands 140 = .ok (.iload_n 1, 1) := by decide +kernel
theorem dL_lands_141 : decode cL_lands 141 = .ok (.invokevirtual 128, 3) := by decide +kernel
theorem dL_lands_144 : decode cL_lands 144 = .ok (.ifCond .ne 54, 3) := by decide +kernel
theorem dL_lands_147 : decode cL_lands 147 = .ok (.aload_n 0, 1) := by decide +kernel
theorem dL_lands_148 : decode cL_lands 148 = .ok (.getfield 54, 3) := by decide +kernel
theorem dL_lands_151 : decode cL_lands 151 = .ok (.iload_n 1, 1) := by decide +kernel
theorem dL_lands_152 : decode cL_lands 152 = .ok (.iaload, 1) := by decide +kernel
theorem dL_lands_153 : decode cL_lands 153 = .ok (.aload_n 0, 1) := by decide +kernel
theorem dL_lands_154 : decode cL_lands 154 = .ok (.getfield 131, 3) := by decide +kernel
theorem dL_lands_157 : decode cL_lands 157 = .ok (.if_icmp .ge 41, 3) := by decide +kernel
theorem dL_lands_160 : decode cL_lands 160 = .ok (.aload_n 0, 1) := by decide +kernel
theorem dL_lands_161 : decode cL_lands 161 = .ok (.getfield 54, 3) := by decide +kernel
theorem dL_lands_164 : decode cL_lands 164 = .ok (.iload_n 1, 1) := by decide +kernel
theorem dL_lands_165 : decode cL_lands 165 = .ok (.dup2, 1) := by decide +kernel
theorem dL_lands_166 : decode cL_lands 166 = .ok (.iaload, 1) := by decide +kernel
theorem dL_lands_167 : decode cL_lands 167 = .ok (.iconst 1, 1) := by decide +kernel
theorem dL_lands_168 : decode cL_lands 168 = .ok (.iadd, 1) := by decide +kernel
theorem dL_lands_169 : decode cL_lands 169 = .ok (.iastore, 1) := by decide +kernel
theorem dL_lands_170 : decode cL_lands 170 = .ok (.aload_n 0, 1) := by decide +kernel
theorem dL_lands_171 : decode cL_lands 171 = .ok (.dup, 1) := by decide +kernel
theorem dL_lands_172 : decode cL_lands 172 = .ok (.getfield 134, 3) := by decide +kernel
theorem dL_lands_175 : decode cL_lands 175 = .ok (.iconst 1, 1) := by decide +kernel
theorem dL_lands_176 : decode cL_lands 176 = .ok (.iadd, 1) := by decide +kernel
theorem dL_lands_177 : decode cL_lands 177 = .ok (.putfield 134, 3) := by decide +kernel
theorem dL_lands_180 : decode cL_lands 180 = .ok (.aload_n 0, 1) := by decide +kernel
theorem dL_lands_181 : decode cL_lands 181 = .ok (.iload_n 1, 1) := by decide +kernel
theorem dL_lands_182 : decode cL_lands 182 = .ok (.invokevirtual 106, 3) := by decide +kernel
theorem dL_lands_185 : decode cL_lands 185 = .ok (.aload_n 0, 1) := by decide +kernel
theorem dL_lands_186 : decode cL_lands 186 = .ok (.getfield 45, 3) := by decide +kernel
theorem dL_lands_189 : decode cL_lands 189 = .ok (.iload_n 1, 1) := by decide +kernel
theorem dL_lands_190 : decode cL_lands 190 = .ok (.aload_n 0, 1) := by decide +kernel
theorem dL_lands_191 : decode cL_lands 191 = .ok (.getfield 36, 3) := by decide +kernel
theorem dL_lands_194 : decode cL_lands 194 = .ok (.iload_n 1, 1) := by decide +kernel
theorem dL_lands_195 : decode cL_lands 195 = .ok (.iaload, 1) := by decide +kernel
theorem dL_lands_196 : decode cL_lands 196 = .ok (.iastore, 1) := by decide +kernel
theorem dL_lands_197 : decode cL_lands 197 = .ok (.return_, 1) := by decide +kernel
theorem dL_lands_198 : decode cL_lands 198 = .ok (.aload_n 0, 1) := by decide +kernel
theorem dL_lands_199 : decode cL_lands 199 = .ok (.getfield 42, 3) := by decide +kernel
theorem dL_lands_202 : decode cL_lands 202 = .ok (.iload_n 1, 1) := by decide +kernel
theorem dL_lands_203 : decode cL_lands 203 = .ok (.iconst 2, 1) := by decide +kernel
theorem dL_lands_204 : decode cL_lands 204 = .ok (.iastore, 1) := by decide +kernel
theorem dL_lands_205 : decode cL_lands 205 = .ok (.aload_n 0, 1) := by decide +kernel
theorem dL_lands_206 : decode cL_lands 206 = .ok (.dup, 1) := by decide +kernel
theorem dL_lands_207 : decode cL_lands 207 = .ok (.getfield 137, 3) := by decide +kernel
theorem dL_lands_210 : decode cL_lands 210 = .ok (.iconst 1, 1) := by decide +kernel
theorem dL_lands_211 : decode cL_lands 211 = .ok (.iadd, 1) := by decide +kernel
theorem dL_lands_212 : decode cL_lands 212 = .ok (.putfield 137, 3) := by decide +kernel
theorem dL_lands_215 : decode cL_lands 215 = .ok (.aload_n 0, 1) := by decide +kernel
theorem dL_lands_216 : decode cL_lands 216 = .ok (.iload_n 1, 1) := by decide +kernel
theorem dL_lands_217 : decode cL_lands 217 = .ok (.invokevirtual 128, 3) := by decide +kernel
theorem dL_lands_220 : decode cL_lands 220 = .ok (.ifCond .ne 4, 3) := by decide +kernel
theorem dL_lands_223 : decode cL_lands 223 = .ok (.return_, 1) := by decide +kernel
theorem dL_lands_224 : decode cL_lands 224 = .ok (.aload_n 0, 1) := by decide +kernel
theorem dL_lands_225 : decode cL_lands 225 = .ok (.dup, 1) := by decide +kernel
theorem dL_lands_226 : decode cL_lands 226 = .ok (.getfield 140, 3) := by decide +kernel
theorem dL_lands_229 : decode cL_lands 229 = .ok (.iconst 1, 1) := by decide +kernel
theorem dL_lands_230 : decode cL_lands 230 = .ok (.iadd, 1) := by decide +kernel
theorem dL_lands_231 : decode cL_lands 231 = .ok (.putfield 140, 3) := by decide +kernel
theorem dL_lands_234 : decode cL_lands 234 = .ok (.aload_n 0, 1) := by decide +kernel
theorem dL_lands_235 : decode cL_lands 235 = .ok (.getfield 60, 3) := by decide +kernel
theorem dL_lands_238 : decode cL_lands 238 = .ok (.iload_n 1, 1) := by decide +kernel
theorem dL_lands_239 : decode cL_lands 239 = .ok (.iaload, 1) := by decide +kernel
theorem dL_lands_240 : decode cL_lands 240 = .ok (.ifCond .eq 12, 3) := by decide +kernel
theorem dL_lands_243 : decode cL_lands 243 = .ok (.aload_n 0, 1) := by decide +kernel
theorem dL_lands_244 : decode cL_lands 244 = .ok (.getfield 103, 3) := by decide +kernel
theorem dL_lands_247 : decode cL_lands 247 = .ok (.bipush 30, 2) := by decide +kernel
theorem dL_lands_249 : decode cL_lands 249 = .ok (.if_icmp .ne 4, 3) := by decide +kernel
theorem dL_lands_252 : decode cL_lands 252 = .ok (.return_, 1) := by decide +kernel
theorem dL_lands_253 : decode cL_lands 253 = .ok (.iload_n 2, 1) := by decide +kernel
theorem dL_lands_254 : decode cL_lands 254 = .ok (.newarray .int, 2) := by decide +kernel
theorem dL_lands_256 : decode cL_lands 256 = .ok (.astore 4, 2) := by decide +kernel
theorem dL_lands_258 : decode cL_lands 258 = .ok (.iconst 0, 1) := by decide +kernel
theorem dL_lands_259 : decode cL_lands 259 = .ok (.istore 5, 2) := by decide +kernel
theorem dL_lands_261 : decode cL_lands 261 = .ok (.iload 5, 2) := by decide +kernel
theorem dL_lands_263 : decode cL_lands 263 = .ok (.iload_n 2, 1) := by decide +kernel
theorem dL_lands_264 : decode cL_lands 264 = .ok (.if_icmp .ge 27, 3) := by decide +kernel
theorem dL_lands_267 : decode cL_lands 267 = .ok (.aload 4, 2) := by decide +kernel
theorem dL_lands_269 : decode cL_lands 269 = .ok (.iload_n 2, 1) := by decide +kernel
theorem dL_lands_270 : decode cL_lands 270 = .ok (.iconst 1, 1) := by decide +kernel
theorem dL_lands_271 : decode cL_lands 271 = .ok (.isub, 1) := by decide +kernel
theorem dL_lands_272 : decode cL_lands 272 = .ok (.iload 5, 2) := by decide +kernel
theorem dL_lands_274 : decode cL_lands 274 = .ok (.isub, 1) := by decide +kernel
theorem dL_lands_275 : decode cL_lands 275 = .ok (.aload_n 0, 1) := by decide +kernel
theorem dL_lands_276 : decode cL_lands 276 = .ok (.getfield 67, 3) := by decide +kernel
theorem dL_lands_279 : decode cL_lands 279 = .ok (.iload_n 1, 1) := by decide +kernel
theorem dL_lands_280 : decode cL_lands 280 = .ok (.aaload, 1) := by decide +kernel
theorem dL_lands_281 : decode cL_lands 281 = .ok (.iload 5, 2) := by decide +kernel
theorem dL_lands_283 : decode cL_lands 283 = .ok (.iaload, 1) := by decide +kernel
theorem dL_lands_284 : decode cL_lands 284 = .ok (.iastore, 1) := by decide +kernel
theorem dL_lands_285 : decode cL_lands 285 = .ok (.iinc 5 1, 3) := by decide +kernel
theorem dL_lands_288 : decode cL_lands 288 = .ok (.goto (-27), 3) := by decide +kernel
theorem dL_lands_291 : decode cL_lands 291 = .ok (.aload_n 0, 1) := by decide +kernel
theorem dL_lands_292 : decode cL_lands 292 = .ok (.aload_n 0, 1) := by decide +kernel
theorem dL_lands_293 : decode cL_lands 293 = .ok (.getfield 39, 3) := by decide +kernel
theorem dL_lands_296 : decode cL_lands 296 = .ok (.iload_n 1, 1) := by decide +kernel
theorem dL_lands_297 : decode cL_lands 297 = .ok (.iaload, 1) := by decide +kernel
theorem dL_lands_298 : decode cL_lands 298 = .ok (.aload_n 0, 1) := by decide +kernel
theorem dL_lands_299 : decode cL_lands 299 = .ok (.getfield 36, 3) := by decide +kernel
theorem dL_lands_302 : decode cL_lands 302 = .ok (.iload_n 1, 1) := by decide +kernel
theorem dL_lands_303 : decode cL_lands 303 = .ok (.iaload, 1) := by decide +kernel
theorem dL_lands_304 : decode cL_lands 304 = .ok (.aload 4, 2) := by decide +kernel
theorem dL_lands_306 : decode cL_lands 306 = .ok (.iconst 0, 1) := by decide +kernel
theorem dL_lands_307 : decode cL_lands 307 = .ok (.iconst 1, 1) := by decide +kernel
theorem dL_lands_308 : decode cL_lands 308 = .ok (.invokevirtual 143, 3) := by decide +kernel
theorem dL_lands_311 : decode cL_lands 311 = .ok (.return_, 1) := by decide +kernel
theorem dL_first_0 : decode cL_first 0 = .ok (.iconst (-1), 1) := by decide +kernel
theorem dL_first_1 : decode cL_first 1 = .ok (.istore_n 2, 1) := by decide +kernel
theorem dL_first_2 : decode cL_first 2 = .ok (.iconst 0, 1) := by decide +kernel
theorem dL_first_3 : decode cL_first 3 = .ok (.istore_n 3, 1) := by decide +kernel
theorem dL_first_4 : decode cL_first 4 = .ok (.iload_n 3, 1) := by decide +kernel
theorem dL_first_5 : decode cL_first 5 = .ok (.aload_n 0, 1) := by decide +kernel
theorem dL_first_6 : decode cL_first 6 = .ok (.getfield 103, 3) := by decide +kernel
theorem dL_first_9 : decode cL_first 9 = .ok (.if_icmp .ge 90, 3) := by decide +kernel
theorem dL_first_12 : decode cL_first 12 = .ok (.aload_n 0, 1) := by decide +kernel
theorem dL_first_13 : decode cL_first 13 = .ok (.getfield 42, 3) := by decide +kernel
theorem dL_first_16 : decode cL_first 16 = .ok (.iload_n 3, 1) := by decide +kernel
theorem dL_first_17 : decode cL_first 17 = .ok (.iaload, 1) := by decide +kernel
theorem dL_first_18 : decode cL_first 18 = .ok (.ifCond .ne 75, 3) := by decide +kernel
theorem dL_first_21 : decode cL_first 21 = .ok (.aload_n 0, 1) := by decide +kernel
theorem dL_first_22 : decode cL_first 22 = .ok (.getfield 45, 3) := by decide +kernel
theorem dL_first_25 : decode cL_first 25 = .ok (.iload_n 3, 1) := by decide +kernel
theorem dL_first_26 : decode cL_first 26 = .ok (.iaload, 1) := by decide +kernel
theorem dL_first_27 : decode cL_first 27 = .ok (.iload_n 1, 1) := by decide +kernel
theorem dL_first_28 : decode cL_first 28 = .ok (.if_icmp .ne 65, 3) := by decide +kernel
theorem dL_first_31 : decode cL_first 31 = .ok (.aload_n 0, 1) := by decide +kernel
theorem dL_first_32 : decode cL_first 32 = .ok (.iload_n 1, 1) := by decide +kernel
theorem dL_first_33 : decode cL_first 33 = .ok (.aload_n 0, 1) := by decide +kernel
theorem dL_first_34 : decode cL_first 34 = .ok (.getfield 39, 3) := by decide +kernel
theorem dL_first_37 : decode cL_first 37 = .ok (.iload_n 3, 1) := by decide +kernel
theorem dL_first_38 : decode cL_first 38 = .ok (.iaload, 1) := by decide +kernel
theorem dL_first_39 : decode cL_first 39 = .ok (.invokevirtual 147, 3) := by decide +kernel
theorem dL_first_42 : decode cL_first 42 = .ok (.ifCond .lt 51, 3) := by decide +kernel
theorem dL_first_45 : decode cL_first 45 = .ok (.aload_n 0, 1) := by decide +kernel
theorem dL_first_46 : decode cL_first 46 = .ok (.getfield 19, 3) := by decide +kernel
theorem dL_first_49 : decode cL_first 49 = .ok (.aload_n 0, 1) := by decide +kernel
theorem dL_first_50 : decode cL_first 50 = .ok (.getfield 36, 3) := by decide +kernel
theorem dL_first_53 : decode cL_first 53 = .ok (.iload_n 3, 1) := by decide +kernel
theorem dL_first_54 : decode cL_first 54 = .ok (.iaload, 1) := by decide +kernel
theorem dL_first_55 : decode cL_first 55 = .ok (.iaload, 1) := by decide +kernel
theorem dL_first_56 : decode cL_first 56 = .ok (.aload_n 0, 1) := by decide +kernel
theorem dL_first_57 : decode cL_first 57 = .ok (.getfield 16, 3) := by decide +kernel
theorem dL_first_60 : decode cL_first 60 = .ok (.iload_n 1, 1) := by decide +kernel
theorem dL_first_61 : decode cL_first 61 = .ok (.iaload, 1) := by decide +kernel
theorem dL_first_62 : decode cL_first 62 = .ok (.aload_n 0, 1) := by decide +kernel
theorem dL_first_63 : decode cL_first 63 = .ok (.iload_n 3, 1) := by decide +kernel
theorem dL_first_64 : decode cL_first 64 = .ok (.invokevirtual 150, 3) := by decide +kernel
theorem dL_first_67 : decode cL_first 67 = .ok (.imul, 1) := by decide +kernel
theorem dL_first_68 : decode cL_first 68 = .ok (.if_icmp .ge 6, 3) := by decide +kernel
theorem dL_first_71 : decode cL_first 71 = .ok (.goto 22, 3) := by decide +kernel
theorem dL_first_74 : decode cL_first 74 = .ok (.iload_n 2, 1) := by decide +kernel
theorem dL_first_75 : decode cL_first 75 = .ok (.ifCond .lt 16, 3) := by decide +kernel
theorem dL_first_78 : decode cL_first 78 = .ok (.aload_n 0, 1) := by decide +kernel
theorem dL_first_79 : decode cL_first 79 = .ok (.iload_n 3, 1) := by decide +kernel
theorem dL_first_80 : decode cL_first 80 = .ok (.invokevirtual 150, 3) := by decide +kernel
theorem dL_first_83 : decode cL_first 83 = .ok (.aload_n 0, 1) := by decide +kernel
theorem dL_first_84 : decode cL_first 84 = .ok (.iload_n 2, 1) := by decide +kernel
theorem dL_first_85 : decode cL_first 85 = .ok (.invokevirtual 150, 3) := by decide +kernel
theorem dL_first_88 : decode cL_first 88 = .ok (.if_icmp .le 5, 3) := by decide +kernel
theorem dL_first_91 : decode cL_first 91 = .ok (.iload_n 3, 1) := by decide +kernel
theorem dL_first_92 : decode cL_first 92 = .ok (.istore_n 2, 1) := by decide +kernel
theorem dL_first_93 : decode cL_first 93 = .ok (.iinc 3 1, 3) := by decide +kernel
theorem dL_first_96 : decode cL_first 96 = .ok (.goto (-92), 3) := by decide +kernel
theorem dL_first_99 : decode cL_first 99 = .ok (.iload_n 2, 1) := by decide +kernel
theorem dL_first_100 : decode cL_first 100 = .ok (.ireturn, 1) := by decide +kernel
theorem dL_ticks_0 : decode cL_ticks 0 = .ok (.aload_n 0, 1) := by decide +kernel
theorem dL_ticks_1 : decode cL_ticks 1 = .ok (.dup, 1) := by decide +kernel
theorem dL_ticks_2 : decode cL_ticks 2 = .ok (.getfield 154, 3) := by decide +kernel
theorem dL_ticks_5 : decode cL_ticks 5 = .ok (.iconst 1, 1) := by decide +kernel
theorem dL_ticks_6 : decode cL_ticks 6 = .ok (.iadd, 1) := by decide +kernel
theorem dL_ticks_7 : decode cL_ticks 7 = .ok (.putfield 154, 3) := by decide +kernel
theorem dL_ticks_10 : decode cL_ticks 10 = .ok (.aload_n 0, 1) := by decide +kernel
theorem dL_ticks_11 : decode cL_ticks 11 = .ok (.getfield 103, 3) := by decide +kernel
theorem dL_ticks_14 : decode cL_ticks 14 = .ok (.istore_n 1, 1) := by decide +kernel
theorem dL_ticks_15 : decode cL_ticks 15 = .ok (.iconst 0, 1) := by decide +kernel
theorem dL_ticks_16 : decode cL_ticks 16 = .ok (.istore_n 2, 1) := by decide +kernel
theorem dL_ticks_17 : decode cL_ticks 17 = .ok (.iload_n 2, 1) := by decide +kernel
theorem dL_ticks_18 : decode cL_ticks 18 = .ok (.iload_n 1, 1) := by decide +kernel
theorem dL_ticks_19 : decode cL_ticks 19 = .ok (.if_icmp .ge 37, 3) := by decide +kernel
theorem dL_ticks_22 : decode cL_ticks 22 = .ok (.aload_n 0, 1) := by decide +kernel
theorem dL_ticks_23 : decode cL_ticks 23 = .ok (.getfield 42, 3) := by decide +kernel
theorem dL_ticks_26 : decode cL_ticks 26 = .ok (.iload_n 2, 1) := by decide +kernel
theorem dL_ticks_27 : decode cL_ticks 27 = .ok (.iaload, 1) := by decide +kernel
theorem dL_ticks_28 : decode cL_ticks 28 = .ok (.iconst 1, 1) := by decide +kernel
theorem dL_ticks_29 : decode cL_ticks 29 = .ok (.if_icmp .ne 21, 3) := by decide +kernel
theorem dL_ticks_32 : decode cL_ticks 32 = .ok (.aload_n 0, 1) := by decide +kernel
theorem dL_ticks_33 : decode cL_ticks 33 = .ok (.getfield 48, 3) := by decide +kernel
theorem dL_ticks_36 : decode cL_ticks 36 = .ok (.iload_n 2, 1) := by decide +kernel
theorem dL_ticks_37 : decode cL_ticks 37 = .ok (.iaload, 1) := by decide +kernel
theorem dL_ticks_38 : decode cL_ticks 38 = .ok (.aload_n 0, 1) := by decide +kernel
theorem dL_ticks_39 : decode cL_ticks 39 = .ok (.getfield 154, 3) := by decide +kernel
theorem dL_ticks_42 : decode cL_ticks 42 = .ok (.if_icmp .ne 8, 3) := by decide +kernel
theorem dL_ticks_45 : decode cL_ticks 45 = .ok (.aload_n 0, 1) := by decide +kernel
theorem dL_ticks_46 : decode cL_ticks 46 = .ok (.iload_n 2, 1) := by decide +kernel
theorem dL_ticks_47 : decode cL_ticks 47 = .ok (.invokevirtual 157, 3) := by decide +kernel
theorem dL_ticks_50 : decode cL_ticks 50 = .ok (.iinc 2 1, 3) := by decide +kernel
theorem dL_ticks_53 : decode cL_ticks 53 = .ok (.goto (-36), 3) := by decide +kernel
theorem dL_ticks_56 : decode cL_ticks 56 = .ok (.iconst 0, 1) := by decide +kernel
theorem dL_ticks_57 : decode cL_ticks 57 = .ok (.istore_n 2, 1) := by decide +kernel
theorem dL_ticks_58 : decode cL_ticks 58 = .ok (.iload_n 2, 1) := by decide +kernel
theorem dL_ticks_59 : decode cL_ticks 59 = .ok (.aload_n 0, 1) := by decide +kernel
theorem dL_ticks_60 : decode cL_ticks 60 = .ok (.getfield 93, 3) := by decide +kernel
theorem dL_ticks_63 : decode cL_ticks 63 = .ok (.if_icmp .ge 244, 3) := by decide +kernel
theorem dL_ticks_66 : decode cL_ticks 66 = .ok (.aload_n 0, 1) := by decide +kernel
theorem dL_ticks_67 : decode cL_ticks 67 = .ok (.getfield 154, 3) := by decide +kernel
theorem dL_ticks_70 : decode cL_ticks 70 = .ok (.bipush 60, 2) := by decide +kernel
theorem dL_ticks_72 : decode cL_ticks 72 = .ok (.irem, 1) := by decide +kernel
theorem dL_ticks_73 : decode cL_ticks 73 = .ok (.aload_n 0, 1) := by decide +kernel
theorem dL_ticks_74 : decode cL_ticks 74 = .ok (.getfield 160, 3) := by decide +kernel
theorem dL_ticks_77 : decode cL_ticks 77 = .ok (.if_icmp .ge 230, 3) := by decide +kernel
theorem dL_ticks_80 : decode cL_ticks 80 = .ok (.aload_n 0, 1) := by decide +kernel
theorem dL_ticks_81 : decode cL_ticks 81 = .ok (.getfield 22, 3) := by decide +kernel
theorem dL_ticks_84 : decode cL_ticks 84 = .ok (.iload_n 2, 1) := by decide +kernel
theorem dL_ticks_85 : decode cL_ticks 85 = .ok (.iaload, 1) := by decide +kernel
theorem dL_ticks_86 : decode cL_ticks 86 = .ok (.aload_n 0, 1) := by decide +kernel
theorem dL_ticks_87 : decode cL_ticks 87 = .ok (.getfield 154, 3) := by decide +kernel
theorem dL_ticks_90 : decode cL_ticks 90 = .ok (.if_icmp .le 7, 3) := by decide +kernel
theorem dL_ticks_93 : decode cL_ticks 93 = .ok (.iconst (-1), 1) := by decide +kernel
theorem dL_ticks_94 : decode cL_ticks 94 = .ok (.goto 8, 3) := by decide +kernel
theorem dL_ticks_97 : decode cL_ticks 97 = .ok (.aload_n 0, 1) := by decide +kernel
theorem dL_ticks_98 : decode cL_ticks 98 = .ok (.iload_n 2, 1) := by decide +kernel
theorem dL_ticks_99 : decode cL_ticks 99 = .ok (.invokevirtual 163, 3) := by decide +kernel
theorem dL_ticks_102 : decode cL_ticks 102 = .ok (.istore_n 3, 1) := by decide +kernel
theorem dL_ticks_103 : decode cL_ticks 103 = .ok (.iload_n 3, 1) := by decide +kernel
theorem dL_ticks_104 : decode cL_ticks 104 = .ok (.ifCond .ge 6, 3) := by decide +kernel
theorem dL_ticks_107 : decode cL_ticks 107 = .ok (.goto 194, 3) := by decide +kernel
theorem dL_ticks_110 : decode cL_ticks 110 = .ok (.aload_n 0, 1) := by decide +kernel
theorem dL_ticks_111 : decode cL_ticks 111 = .ok (.getfield 16, 3) := by decide +kernel
theorem dL_ticks_114 : decode cL_ticks 114 = .ok (.iload_n 2, 1) := by decide +kernel
theorem dL_ticks_115 : decode cL_ticks 115 = .ok (.iaload, 1) := by decide +kernel
theorem dL_ticks_116 : decode cL_ticks 116 = .ok (.aload_n 0, 1) := by decide +kernel
theorem dL_ticks_117 : decode cL_ticks 117 = .ok (.iload_n 3, 1) := by decide +kernel
theorem dL_ticks_118 : decode cL_ticks 118 = .ok (.invokevirtual 150, 3) := by decide +kernel
theorem dL_ticks_121 : decode cL_ticks 121 = .ok (.imul, 1) := by decide +kernel
theorem dL_ticks_122 : decode cL_ticks 122 = .ok (.istore 4, 2) := by decide +kernel
theorem dL_ticks_124 : decode cL_ticks 124 = .ok (.aload_n 0, 1) := by decide +kernel
theorem dL_ticks_125 : decode cL_ticks 125 = .ok (.getfield 19, 3) := by decide +kernel
theorem dL_ticks_128 : decode cL_ticks 128 = .ok (.aload_n 0, 1) := by decide +kernel
theorem dL_ticks_129 : decode cL_ticks 129 = .ok (.getfield 36, 3) := by decide +kernel
theorem dL_ticks_132 : decode cL_ticks 132 = .ok (.iload_n 3, 1) := by decide +kernel
theorem dL_ticks_133 : decode cL_ticks 133 = .ok (.iaload, 1) := by decide +kernel
theorem dL_ticks_134 : decode cL_ticks 134 = .ok (.dup2, 1) := by decide +kernel
theorem dL_ticks_135 : decode cL_ticks 135 = .ok (.iaload, 1) := by decide +kernel
theorem dL_ticks_136 : decode cL_ticks 136 = .ok (.iload 4, 2) := by decide +kernel
theorem dL_ticks_138 : decode cL_ticks 138 = .ok (.isub, 1) := by decide +kernel
theorem dL_ticks_139 : decode cL_ticks 139 = .ok (.iastore, 1) := by decide +kernel
theorem dL_ticks_140 : decode cL_ticks 140 = .ok (.aload_n 0, 1) := by decide +kernel
theorem dL_ticks_141 : decode cL_ticks 141 = .ok (.getfield 19, 3) := by decide +kernel
theorem dL_ticks_144 : decode cL_ticks 144 = .ok (.iload_n 2, 1) := by decide +kernel
theorem dL_ticks_145 : decode cL_ticks 145 = .ok (.dup2, 1) := by decide +kernel
theorem dL_ticks_146 : decode cL_ticks 146 = .ok (.iaload, 1) := by decide +kernel
theorem dL_ticks_147 : decode cL_ticks 147 = .ok (.iload 4, 2) := by decide +kernel
theorem dL_ticks_149 : decode cL_ticks 149 = .ok (.iadd, 1) := by decide +kernel
theorem dL_ticks_150 : decode cL_ticks 150 = .ok (.iastore, 1) := by decide +kernel
theorem dL_ticks_151 : decode cL_ticks 151 = .ok (.aload_n 0, 1) := by decide +kernel
theorem dL_ticks_152 : decode cL_ticks 152 = .ok (.dup, 1) := by decide +kernel
theorem dL_ticks_153 : decode cL_ticks 153 = .ok (.getfield 166, 3) := by decide +kernel
theorem dL_ticks_156 : decode cL_ticks 156 = .ok (.iload 4, 2) := by decide +kernel
theorem dL_ticks_158 : decode cL_ticks 158 = .ok (.iadd, 1) := by decide +kernel
theorem dL_ticks_159 : decode cL_ticks 159 = .ok (.putfield 166, 3) := by decide +kernel
theorem dL_ticks_162 : decode cL_ticks 162 = .ok (.aload_n 0, 1) := by decide +kernel
theorem dL_ticks_163 : decode cL_ticks 163 = .ok (.getfield 67, 3) := by decide +kernel
theorem dL_ticks_166 : decode cL_ticks 166 = .ok (.iload_n 3, 1) := by decide +kernel
theorem dL_ticks_167 : decode cL_ticks 167 = .ok (.aaload, 1) := by decide +kernel
theorem dL_ticks_168 : decode cL_ticks 168 = .ok (.arraylength, 1) := by decide +kernel
theorem dL_ticks_169 : decode cL_ticks 169 = .ok (.istore 5, 2) := by decide +kernel
theorem dL_ticks_171 : decode cL_ticks 171 = .ok (.aload_n 0, 1) := by decide +kernel
theorem dL_ticks_172 : decode cL_ticks 172 = .ok (.getfield 22, 3) := by decide +kernel
theorem dL_ticks_175 : decode cL_ticks 175 = .ok (.iload_n 2, 1) := by decide +kernel
theorem dL_ticks_176 : decode cL_ticks 176 = .ok (.aload_n 0, 1) := by decide +kernel
theorem dL_ticks_177 : decode cL_ticks 177 = .ok (.getfield 154, 3) := by decide +kernel
theorem dL_ticks_180 : decode cL_ticks 180 = .ok (.iload 5, 2) := by decide +kernel
theorem dL_ticks_182 : decode cL_ticks 182 = .ok (.aload_n 0, 1) := by decide +kernel
theorem dL_ticks_183 : decode cL_ticks 183 = .ok (.getfield 7, 3) := by decide +kernel
theorem dL_ticks_186 : decode cL_ticks 186 = .ok (.iload_n 2, 1) := by decide +kernel
theorem dL_ticks_187 : decode cL_ticks 187 = .ok (.iaload, 1) := by decide +kernel
theorem dL_ticks_188 : decode cL_ticks 188 = .ok (.idiv, 1) := by decide +kernel
theorem dL_ticks_189 : decode cL_ticks 189 = .ok (.iadd, 1) := by decide +kernel
theorem dL_ticks_190 : decode cL_ticks 190 = .ok (.iload 5, 2) := by decide +kernel
theorem dL_ticks_192 : decode cL_ticks 192 = .ok (.aload_n 0, 1) := by decide +kernel
theorem dL_ticks_193 : decode cL_ticks 193 = .ok (.getfield 7, 3) := by decide +kernel
theorem dL_ticks_196 : decode cL_ticks 196 = .ok (.iload_n 2, 1) := by decide +kernel
theorem dL_ticks_197 : decode cL_ticks 197 = .ok (.iaload, 1) := by decide +kernel
theorem dL_ticks_198 : decode cL_ticks 198 = .ok (.irem, 1) := by decide +kernel
theorem dL_ticks_199 : decode cL_ticks 199 = .ok (.ifCond .le 7, 3) := by decide +kernel
theorem dL_ticks_202 : decode cL_ticks 202 = .ok (.iconst 1, 1) := by decide +kernel
theorem dL_ticks_203 : decode cL_ticks 203 = .ok (.goto 4, 3) := by decide +kernel
theorem dL_ticks_206 : decode cL_ticks 206 = .ok (.iconst 0, 1) := by decide +kernel
theorem dL_ticks_207 : decode cL_ticks 207 = .ok (.iadd, 1) := by decide +kernel
theorem dL_ticks_208 : decode cL_ticks 208 = .ok (.iastore, 1) := by decide +kernel
theorem dL_ticks_209 : decode cL_ticks 209 = .ok (.aload_n 0, 1) := by decide +kernel
theorem dL_ticks_210 : decode cL_ticks 210 = .ok (.getfield 25, 3) := by decide +kernel
theorem dL_ticks_213 : decode cL_ticks 213 = .ok (.iload_n 2, 1) := by decide +kernel
theorem dL_ticks_214 : decode cL_ticks 214 = .ok (.dup2, 1) := by decide +kernel
theorem dL_ticks_215 : decode cL_ticks 215 = .ok (.iaload, 1) := by decide +kernel
theorem dL_ticks_216 : decode cL_ticks 216 = .ok (.iconst 1, 1) := by decide +kernel
theorem dL_ticks_217 : decode cL_ticks 217 = .ok (.iadd, 1) := by decide +kernel
theorem dL_ticks_218 : decode cL_ticks 218 = .ok (.iastore, 1) := by decide +kernel
theorem dL_ticks_219 : decode cL_ticks 219 = .ok (.aload_n 0, 1) := by decide +kernel
theorem dL_ticks_220 : decode cL_ticks 220 = .ok (.iload_n 2, 1) := by decide +kernel
theorem dL_ticks_221 : decode cL_ticks 221 = .ok (.aload_n 0, 1) := by decide +kernel
theorem dL_ticks_222 : decode cL_ticks 222 = .ok (.getfield 39, 3) := by decide +kernel
theorem dL_ticks_225 : decode cL_ticks 225 = .ok (.iload_n 3, 1) := by decide +kernel
theorem dL_ticks_226 : decode cL_ticks 226 = .ok (.iaload, 1) := by decide +kernel
theorem dL_ticks_227 : decode cL_ticks 227 = .ok (.invokevirtual 147, 3) := by decide +kernel
theorem dL_ticks_230 : decode cL_ticks 230 = .ok (.istore 6, 2) := by decide +kernel
theorem dL_ticks_232 : decode cL_ticks 232 = .ok (.aload_n 0, 1) := by decide +kernel
theorem dL_ticks_233 : decode cL_ticks 233 = .ok (.getfield 51, 3) := by decide +kernel
theorem dL_ticks_236 : decode cL_ticks 236 = .ok (.iload_n 3, 1) := by decide +kernel
theorem dL_ticks_237 : decode cL_ticks 237 = .ok (.aload_n 0, 1) := by decide +kernel
theorem dL_ticks_238 : decode cL_ticks 238 = .ok (.getfield 30, 3) := by decide +kernel
theorem dL_ticks_241 : decode cL_ticks 241 = .ok (.iload_n 2, 1) := by decide +kernel
theorem dL_ticks_242 : decode cL_ticks 242 = .ok (.aaload, 1) := by decide +kernel
theorem dL_ticks_243 : decode cL_ticks 243 = .ok (.iload 6, 2) := by decide +kernel
theorem dL_ticks_245 : decode cL_ticks 245 = .ok (.iaload, 1) := by decide +kernel
theorem dL_ticks_246 : decode cL_ticks 246 = .ok (.iastore, 1) := by decide +kernel
theorem dL_ticks_247 : decode cL_ticks 247 = .ok (.aload_n 0, 1) := by decide +kernel
theorem dL_ticks_248 : decode cL_ticks 248 = .ok (.getfield 48, 3) := by decide +kernel
theorem dL_ticks_251 : decode cL_ticks 251 = .ok (.iload_n 3, 1) := by decide +kernel
theorem dL_ticks_252 : decode cL_ticks 252 = .ok (.aload_n 0, 1) := by decide +kernel
theorem dL_ticks_253 : decode cL_ticks 253 = .ok (.getfield 22, 3) := by decide +kernel
theorem dL_ticks_256 : decode cL_ticks 256 = .ok (.iload_n 2, 1) := by decide +kernel
theorem dL_ticks_257 : decode cL_ticks 257 = .ok (.iaload, 1) := by decide +kernel
theorem dL_ticks_258 : decode cL_ticks 258 = .ok (.aload_n 0, 1) := by decide +kernel
theorem dL_ticks_259 : decode cL_ticks 259 = .ok (.getfield 51, 3) := by decide +kernel
theorem dL_ticks_262 : decode cL_ticks 262 = .ok (.iload_n 3, 1) := by decide +kernel
theorem dL_ticks_263 : decode cL_ticks 263 = .ok (.iaload, 1) := by decide +kernel
theorem dL_ticks_264 : decode cL_ticks 264 = .ok (.iadd, 1) := by decide +kernel
theorem dL_ticks_265 : decode cL_ticks 265 = .ok (.iastore, 1) := by decide +kernel
theorem dL_ticks_266 : decode cL_ticks 266 = .ok (.aload_n 0, 1) := by decide +kernel
theorem dL_ticks_267 : decode cL_ticks 267 = .ok (.getfield 45, 3) := by decide +kernel
theorem dL_ticks_270 : decode cL_ticks 270 = .ok (.iload_n 3, 1) := by decide +kernel
theorem dL_ticks_271 : decode cL_ticks 271 = .ok (.iload 6, 2) := by decide +kernel
theorem dL_ticks_273 : decode cL_ticks 273 = .ok (.iastore, 1) := by decide +kernel
theorem dL_ticks_274 : decode cL_ticks 274 = .ok (.aload_n 0, 1) := by decide +kernel
theorem dL_ticks_275 : decode cL_ticks 275 = .ok (.getfield 42, 3) := by decide +kernel
theorem dL_ticks_278 : decode cL_ticks 278 = .ok (.iload_n 3, 1) := by decide +kernel
theorem dL_ticks_279 : decode cL_ticks 279 = .ok (.iconst 1, 1) := by decide +kernel
theorem dL_ticks_280 : decode cL_ticks 280 = .ok (.iastore, 1) := by decide +kernel
theorem dL_ticks_281 : decode cL_ticks 281 = .ok (.aload_n 0, 1) := by decide +kernel
theorem dL_ticks_282 : decode cL_ticks 282 = .ok (.getfield 57, 3) := by decide +kernel
theorem dL_ticks_285 : decode cL_ticks 285 = .ok (.iload_n 3, 1) := by decide +kernel
theorem dL_ticks_286 : decode cL_ticks 286 = .ok (.dup2, 1) := by decide +kernel
theorem dL_ticks_287 : decode cL_ticks 287 = .ok (.iaload, 1) := by decide +kernel
theorem dL_ticks_288 : decode cL_ticks 288 = .ok (.iconst 1, 1) := by decide +kernel
theorem dL_ticks_289 : decode cL_ticks 289 = .ok (.iadd, 1) := by decide +kernel
theorem dL_ticks_290 : decode cL_ticks 290 = .ok (.iastore, 1) := by decide +kernel
theorem dL_ticks_291 : decode cL_ticks 291 = .ok (.aload_n 0, 1) := by decide +kernel
theorem dL_ticks_292 : decode cL_ticks 292 = .ok (.dup, 1) := by decide +kernel
theorem dL_ticks_293 : decode cL_ticks 293 = .ok (.getfield 169, 3) := by decide +kernel
theorem dL_ticks_296 : decode cL_ticks 296 = .ok (.iconst 1, 1) := by decide +kernel
theorem dL_ticks_297 : decode cL_ticks 297 = .ok (.iadd, 1) := by decide +kernel
theorem dL_ticks_298 : decode cL_ticks 298 = .ok (.putfield 169, 3) := by decide +kernel
theorem dL_ticks_301 : decode cL_ticks 301 = .ok (.iinc 2 1, 3) := by decide +kernel
theorem dL_ticks_304 : decode cL_ticks 304 = .ok (.goto (-246), 3) := by decide +kernel
theorem dL_ticks_307 : decode cL_ticks 307 = .ok (.iconst 0, 1) := by decide +kernel
theorem dL_ticks_308 : decode cL_ticks 308 = .ok (.istore_n 2, 1) := by decide +kernel
theorem dL_ticks_309 : decode cL_ticks 309 = .ok (.iload_n 2, 1) := by decide +kernel
theorem dL_ticks_310 : decode cL_ticks 310 = .ok (.aload_n 0, 1) := by decide +kernel
theorem dL_ticks_311 : decode cL_ticks 311 = .ok (.getfield 103, 3) := by decide +kernel
theorem dL_ticks_314 : decode cL_ticks 314 = .ok (.if_icmp .ge 62, 3) := by decide +kernel
theorem dL_ticks_317 : decode cL_ticks 317 = .ok (.aload_n 0, 1) := by decide +kernel
theorem dL_ticks_318 : decode cL_ticks 318 = .ok (.getfield 42, 3) := by decide +kernel
theorem dL_ticks_321 : decode cL_ticks 321 = .ok (.iload_n 2, 1) := by decide +kernel
theorem dL_ticks_322 : decode cL_ticks 322 = .ok (.iaload, 1) := by decide +kernel
theorem dL_ticks_323 : decode cL_ticks 323 = .ok (.ifCond .ne 47, 3) := by decide +kernel
theorem dL_ticks_326 : decode cL_ticks 326 = .ok (.aload_n 0, 1) := by decide +kernel
theorem dL_ticks_327 : decode cL_ticks 327 = .ok (.getfield 33, 3) := by decide +kernel
theorem dL_ticks_330 : decode cL_ticks 330 = .ok (.aload_n 0, 1) := by decide +kernel
theorem dL_ticks_331 : decode cL_ticks 331 = .ok (.getfield 45, 3) := by decide +kernel
theorem dL_ticks_334 : decode cL_ticks 334 = .ok (.iload_n 2, 1) := by decide +kernel
theorem dL_ticks_335 : decode cL_ticks 335 = .ok (.iaload, 1) := by decide +kernel
theorem dL_ticks_336 : decode cL_ticks 336 = .ok (.aaload, 1) := by decide +kernel
theorem dL_ticks_337 : decode cL_ticks 337 = .ok (.aload_n 0, 1) := by decide +kernel
theorem dL_ticks_338 : decode cL_ticks 338 = .ok (.getfield 39, 3) := by decide +kernel
theorem dL_ticks_341 : decode cL_ticks 341 = .ok (.iload_n 2, 1) := by decide +kernel
theorem dL_ticks_342 : decode cL_ticks 342 = .ok (.iaload, 1) := by decide +kernel
theorem dL_ticks_343 : decode cL_ticks 343 = .ok (.iaload, 1) := by decide +kernel
theorem dL_ticks_344 : decode cL_ticks 344 = .ok (.sipush 9999, 3) := by decide +kernel
theorem dL_ticks_347 : decode cL_ticks 347 = .ok (.if_icmp .ge 6, 3) := by decide +kernel
theorem dL_ticks_350 : decode cL_ticks 350 = .ok (.goto 20, 3) := by decide +kernel
theorem dL_ticks_353 : decode cL_ticks 353 = .ok (.aload_n 0, 1) := by decide +kernel
theorem dL_ticks_354 : decode cL_ticks 354 = .ok (.getfield 42, 3) := by decide +kernel
theorem dL_ticks_357 : decode cL_ticks 357 = .ok (.iload_n 2, 1) := by decide +kernel
theorem dL_ticks_358 : decode cL_ticks 358 = .ok (.iconst 3, 1) := by decide +kernel
theorem dL_ticks_359 : decode cL_ticks 359 = .ok (.iastore, 1) := by decide +kernel
theorem dL_ticks_360 : decode cL_ticks 360 = .ok (.aload_n 0, 1) := by decide +kernel
theorem dL_ticks_361 : decode cL_ticks 361 = .ok (.dup, 1) := by decide +kernel
theorem dL_ticks_362 : decode cL_ticks 362 = .ok (.getfield 172, 3) := by decide +kernel
theorem dL_ticks_365 : decode cL_ticks 365 = .ok (.iconst 1, 1) := by decide +kernel
theorem dL_ticks_366 : decode cL_ticks 366 = .ok (.iadd, 1) := by decide +kernel
theorem dL_ticks_367 : decode cL_ticks 367 = .ok (.putfield 172, 3) := by decide +kernel
theorem dL_ticks_370 : decode cL_ticks 370 = .ok (.iinc 2 1, 3) := by decide +kernel
theorem dL_ticks_373 : decode cL_ticks 373 = .ok (.goto (-64), 3) := by decide +kernel
theorem dL_ticks_376 : decode cL_ticks 376 = .ok (.return_, 1) := by decide +kernel
theorem dL_isRefused_0 : decode cL_isRefused 0 = .ok (.iload_n 1, 1) := by decide +kernel
theorem dL_isRefused_1 : decode cL_isRefused 1 = .ok (.ifCond .ne 12, 3) := by decide +kernel
theorem dL_isRefused_4 : decode cL_isRefused 4 = .ok (.aload_n 0, 1) := by decide +kernel
theorem dL_isRefused_5 : decode cL_isRefused 5 = .ok (.iload_n 2, 1) := by decide +kernel
theorem dL_isRefused_6 : decode cL_isRefused 6 = .ok (.iload_n 3, 1) := by decide +kernel
theorem dL_isRefused_7 : decode cL_isRefused 7 = .ok (.invokevirtual 175, 3) := by decide +kernel
theorem dL_isRefused_10 : decode cL_isRefused 10 = .ok (.goto 11, 3) := by decide +kernel
theorem dL_isRefused_13 : decode cL_isRefused 13 = .ok (.aload_n 0, 1) := by decide +kernel
theorem dL_isRefused_14 : decode cL_isRefused 14 = .ok (.iload_n 2, 1) := by decide +kernel
theorem dL_isRefused_15 : decode cL_isRefused 15 = .ok (.iload_n 3, 1) := by decide +kernel
theorem dL_isRefused_16 : decode cL_isRefused 16 = .ok (.iconst 1, 1) := by decide +kernel
theorem dL_isRefused_17 : decode cL_isRefused 17 = .ok (.iconst 0, 1) := by decide +kernel
theorem dL_isRefused_18 : decode cL_isRefused 18 = .ok (.invokevirtual 178, 3) := by decide +kernel
theorem dL_isRefused_21 : decode cL_isRefused 21 = .ok (.istore 4, 2) := by decide +kernel
theorem dL_isRefused_23 : decode cL_isRefused 23 = .ok (.iconst 0, 1) := by decide +kernel
theorem dL_isRefused_24 : decode cL_isRefused 24 = .ok (.ireturn, 1) := by decide +kernel
theorem dL_isRefused_25 : decode cL_isRefused 25 = .ok (.astore 4, 2) := by decide +kernel
theorem dL_isRefused_27 : decode cL_isRefused 27 = .ok (.iconst 1, 1) := by decide +kernel
theorem dL_isRefused_28 : decode cL_isRefused 28 = .ok (.ireturn, 1) := by decide +kernel
theorem dL_acts_0 : decode cL_acts 0 = .ok (.iload_n 2, 1) := by decide +kernel
theorem dL_acts_1 : decode cL_acts 1 = .ok (.iconst 4, 1) := by decide +kernel
theorem dL_acts_2 : decode cL_acts 2 = .ok (.iconst 4, 1) := by decide +kernel
theorem dL_acts_3 : decode cL_acts 3 = .ok (.invokestatic 184, 3) := by decide +kernel
theorem dL_acts_6 : decode cL_acts 6 = .ok (.aload_n 0, 1) := by decide +kernel
theorem dL_acts_7 : decode cL_acts 7 = .ok (.getfield 93, 3) := by decide +kernel
theorem dL_acts_10 : decode cL_acts 10 = .ok (.irem, 1) := by decide +kernel
theorem dL_acts_11 : decode cL_acts 11 = .ok (.istore_n 3, 1) := by decide +kernel
theorem dL_acts_12 : decode cL_acts 12 = .ok (.iload_n 3, 1) := by decide +kernel
theorem dL_acts_13 : decode cL_acts 13 = .ok (.iconst 1, 1) := by decide +kernel
theorem dL_acts_14 : decode cL_acts 14 = .ok (.iadd, 1) := by decide +kernel
theorem dL_acts_15 : decode cL_acts 15 = .ok (.iload_n 2, 1) := by decide +kernel
theorem dL_acts_16 : decode cL_acts 16 = .ok (.bipush 8, 2) := by decide +kernel
theorem dL_acts_18 : decode cL_acts 18 = .ok (.iconst 4, 1) := by decide +kernel
theorem dL_acts_19 : decode cL_acts 19 = .ok (.invokestatic 184, 3) := by decide +kernel
theorem dL_acts_22 : decode cL_acts 22 = .ok (.aload_n 0, 1) := by decide +kernel
theorem dL_acts_23 : decode cL_acts 23 = .ok (.getfield 93, 3) := by decide +kernel
theorem dL_acts_26 : decode cL_acts 26 = .ok (.iconst 1, 1) := by decide +kernel
theorem dL_acts_27 : decode cL_acts 27 = .ok (.isub, 1) := by decide +kernel
theorem dL_acts_28 : decode cL_acts 28 = .ok (.irem, 1) := by decide +kernel
theorem dL_acts_29 : decode cL_acts 29 = .ok (.iadd, 1) := by decide +kernel
theorem dL_acts_30 : decode cL_acts 30 = .ok (.aload_n 0, 1) := by decide +kernel
theorem dL_acts_31 : decode cL_acts 31 = .ok (.getfield 93, 3) := by decide +kernel
theorem dL_acts_34 : decode cL_acts 34 = .ok (.irem, 1) := by decide +kernel
theorem dL_acts_35 : decode cL_acts 35 = .ok (.istore 4, 2) := by decide +kernel
theorem dL_acts_37 : decode cL_acts 37 = .ok (.iload_n 2, 1) := by decide +kernel
theorem dL_acts_38 : decode cL_acts 38 = .ok (.iconst 0, 1) := by decide +kernel
theorem dL_acts_39 : decode cL_acts 39 = .ok (.iconst 4, 1) := by decide +kernel
theorem dL_acts_40 : decode cL_acts 40 = .ok (.invokestatic 184, 3) := by decide +kernel
theorem dL_acts_43 : decode cL_acts 43 = .ok (.tableswitch 364 0 7 #[45, 45, 45, 45, 45, 206, 279, 320], 45) := by decide +kernel
theorem dL_acts_88 : decode cL_acts 88 = .ok (.aload_n 0, 1) := by decide +kernel
theorem dL_acts_89 : decode cL_acts 89 = .ok (.getfield 103, 3) := by decide +kernel
theorem dL_acts_92 : decode cL_acts 92 = .ok (.bipush 30, 2) := by decide +kernel
theorem dL_acts_94 : decode cL_acts 94 = .ok (.if_icmp .ne 12, 3) := by decide +kernel
theorem dL_acts_97 : decode cL_acts 97 = .ok (.aload_n 1, 1) := by decide +kernel
theorem dL_acts_98 : decode cL_acts 98 = .ok (.iconst 1, 1) := by decide +kernel
theorem dL_acts_99 : decode cL_acts 99 = .ok (.iload_n 3, 1) := by decide +kernel
theorem dL_acts_100 : decode cL_acts 100 = .ok (.iload 4, 2) := by decide +kernel
theorem dL_acts_102 : decode cL_acts 102 = .ok (.invokestatic 188, 3) := by decide +kernel
theorem dL_acts_105 : decode cL_acts 105 = .ok (.ireturn, 1) := by decide +kernel
theorem dL_acts_106 : decode cL_acts 106 = .ok (.iconst 1, 1) := by decide +kernel
theorem dL_acts_107 : decode cL_acts 107 = .ok (.iload_n 2, 1) := by decide +kernel
theorem dL_acts_108 : decode cL_acts 108 = .ok (.bipush 12, 2) := by decide +kernel
theorem dL_acts_110 : decode cL_acts 110 = .ok (.iconst 3, 1) := by decide +kernel
theorem dL_acts_111 : decode cL_acts 111 = .ok (.invokestatic 184, 3) := by decide +kernel
theorem dL_acts_114 : decode cL_acts 114 = .ok (.iadd, 1) := by decide +kernel
theorem dL_acts_115 : decode cL_acts 115 = .ok (.istore 5, 2) := by decide +kernel
theorem dL_acts_117 : decode cL_acts 117 = .ok (.iload 5, 2) := by decide +kernel
theorem dL_acts_119 : decode cL_acts 119 = .ok (.newarray .int, 2) := by decide +kernel
theorem dL_acts_121 : decode cL_acts 121 = .ok (.astore 6, 2) := by decide +kernel
theorem dL_acts_123 : decode cL_acts 123 = .ok (.iconst 0, 1) := by decide +kernel
theorem dL_acts_124 : decode cL_acts 124 = .ok (.istore 7, 2) := by decide +kernel
theorem dL_acts_126 : decode cL_acts 126 = .ok (.iconst 0, 1) := by decide +kernel
theorem dL_acts_127 : decode cL_acts 127 = .ok (.istore 8, 2) := by decide +kernel
theorem dL_acts_129 : decode cL_acts 129 = .ok (.iload 8, 2) := by decide +kernel
theorem dL_acts_131 : decode cL_acts 131 = .ok (.iload 5, 2) := by decide +kernel
theorem dL_acts_133 : decode cL_acts 133 = .ok (.if_icmp .ge 60, 3) := by decide +kernel
theorem dL_acts_136 : decode cL_acts 136 = .ok (.aload 6, 2) := by decide +kernel
theorem dL_acts_138 : decode cL_acts 138 = .ok (.iload 8, 2) := by decide +kernel
theorem dL_acts_140 : decode cL_acts 140 = .ok (.iload 8, 2) := by decide +kernel
theorem dL_acts_142 : decode cL_acts 142 = .ok (.ifCond .ne 18, 3) := by decide +kernel
theorem dL_acts_145 : decode cL_acts 145 = .ok (.iconst 1, 1) := by decide +kernel
theorem dL_acts_146 : decode cL_acts 146 = .ok (.iload_n 2, 1) := by decide +kernel
theorem dL_acts_147 : decode cL_acts 147 = .ok (.bipush 15, 2) := by decide +kernel
theorem dL_acts_149 : decode cL_acts 149 = .ok (.iconst 4, 1) := by decide +kernel
theorem dL_acts_150 : decode cL_acts 150 = .ok (.invokestatic 184, 3) := by decide +kernel
theorem dL_acts_153 : decode cL_acts 153 = .ok (.bipush 7, 2) := by decide +kernel
theorem dL_acts_155 : decode cL_acts 155 = .ok (.irem, 1) := by decide +kernel
theorem dL_acts_156 : decode cL_acts 156 = .ok (.iadd, 1) := by decide +kernel
theorem dL_acts_157 : decode cL_acts 157 = .ok (.goto 16, 3) := by decide +kernel
theorem dL_acts_160 : decode cL_acts 160 = .ok (.iload_n 2, 1) := by decide +kernel
theorem dL_acts_161 : decode cL_acts 161 = .ok (.bipush 31, 2) := by decide +kernel
theorem dL_acts_163 : decode cL_acts 163 = .ok (.imul, 1) := by decide +kernel
theorem dL_acts_164 : decode cL_acts 164 = .ok (.iload 8, 2) := by decide +kernel
theorem dL_acts_166 : decode cL_acts 166 = .ok (.iadd, 1) := by decide +kernel
theorem dL_acts_167 : decode cL_acts 167 = .ok (.bipush 9, 2) := by decide +kernel
theorem dL_acts_169 : decode cL_acts 169 = .ok (.iconst 3, 1) := by decide +kernel
theorem dL_acts_170 : decode cL_acts 170 = .ok (.invokestatic 184, 3) := by decide +kernel
theorem dL_acts_173 : decode cL_acts 173 = .ok (.iastore, 1) := by decide +kernel
theorem dL_acts_174 : decode cL_acts 174 = .ok (.bipush 10, 2) := by decide +kernel
theorem dL_acts_176 : decode cL_acts 176 = .ok (.iload 7, 2) := by decide +kernel
theorem dL_acts_178 : decode cL_acts 178 = .ok (.imul, 1) := by decide +kernel
theorem dL_acts_179 : decode cL_acts 179 = .ok (.aload 6, 2) := by decide +kernel
theorem dL_acts_181 : decode cL_acts 181 = .ok (.iload 8, 2) := by decide +kernel
theorem dL_acts_183 : decode cL_acts 183 = .ok (.iaload, 1) := by decide +kernel
theorem dL_acts_184 : decode cL_acts 184 = .ok (.iadd, 1) := by decide +kernel
theorem dL_acts_185 : decode cL_acts 185 = .ok (.istore 7, 2) := by decide +kernel
theorem dL_acts_187 : decode cL_acts 187 = .ok (.iinc 8 1, 3) := by decide +kernel
theorem dL_acts_190 : decode cL_acts 190 = .ok (.goto (-61), 3) := by decide +kernel
theorem dL_acts_193 : decode cL_acts 193 = .ok (.iload_n 2, 1) := by decide +kernel
theorem dL_acts_194 : decode cL_acts 194 = .ok (.bipush 19, 2) := by decide +kernel
theorem dL_acts_196 : decode cL_acts 196 = .ok (.iconst 1, 1) := by decide +kernel
theorem dL_acts_197 : decode cL_acts 197 = .ok (.invokestatic 184, 3) := by decide +kernel
theorem dL_acts_200 : decode cL_acts 200 = .ok (.istore 8, 2) := by decide +kernel
theorem dL_acts_202 : decode cL_acts 202 = .ok (.aload_n 0, 1) := by decide +kernel
theorem dL_acts_203 : decode cL_acts 203 = .ok (.iload_n 3, 1) := by decide +kernel
theorem dL_acts_204 : decode cL_acts 204 = .ok (.iload 4, 2) := by decide +kernel
theorem dL_acts_206 : decode cL_acts 206 = .ok (.aload 6, 2) := by decide +kernel
theorem dL_acts_208 : decode cL_acts 208 = .ok (.iload 8, 2) := by decide +kernel
theorem dL_acts_210 : decode cL_acts 210 = .ok (.iconst 0, 1) := by decide +kernel
theorem dL_acts_211 : decode cL_acts 211 = .ok (.invokevirtual 143, 3) := by decide +kernel
theorem dL_acts_214 : decode cL_acts 214 = .ok (.aload_n 1, 1) := by decide +kernel
theorem dL_acts_215 : decode cL_acts 215 = .ok (.iload_n 3, 1) := by decide +kernel
theorem dL_acts_216 : decode cL_acts 216 = .ok (.iload 4, 2) := by decide +kernel
theorem dL_acts_218 : decode cL_acts 218 = .ok (.iload 7, 2) := by decide +kernel
theorem dL_acts_220 : decode cL_acts 220 = .ok (.iload 8, 2) := by decide +kernel
theorem dL_acts_222 : decode cL_acts 222 = .ok (.iconst 1, 1) := by decide +kernel
theorem dL_acts_223 : decode cL_acts 223 = .ok (.if_icmp .ne 7, 3) := by decide +kernel
theorem dL_acts_226 : decode cL_acts 226 = .ok (.iconst 1, 1) := by decide +kernel
theorem dL_acts_227 : decode cL_acts 227 = .ok (.goto 4, 3) := by decide +kernel
theorem dL_acts_230 : decode cL_acts 230 = .ok (.iconst 0, 1) := by decide +kernel
theorem dL_acts_231 : decode cL_acts 231 = .ok (.invokevirtual 178, 3) := by decide +kernel
theorem dL_acts_234 : decode cL_acts 234 = .ok (.aload_n 0, 1) := by decide +kernel
theorem dL_acts_235 : decode cL_acts 235 = .ok (.getfield 103, 3) := by decide +kernel
theorem dL_acts_238 : decode cL_acts 238 = .ok (.iconst 1, 1) := by decide +kernel
theorem dL_acts_239 : decode cL_acts 239 = .ok (.isub, 1) := by decide +kernel
theorem dL_acts_240 : decode cL_acts 240 = .ok (.if_icmp .ne 7, 3) := by decide +kernel
theorem dL_acts_243 : decode cL_acts 243 = .ok (.iconst 1, 1) := by decide +kernel
theorem dL_acts_244 : decode cL_acts 244 = .ok (.goto 4, 3) := by decide +kernel
theorem dL_acts_247 : decode cL_acts 247 = .ok (.iconst 0, 1) := by decide +kernel
theorem dL_acts_248 : decode cL_acts 248 = .ok (.ireturn, 1) := by decide +kernel
theorem dL_acts_249 : decode cL_acts 249 = .ok (.aload_n 0, 1) := by decide +kernel
theorem dL_acts_250 : decode cL_acts 250 = .ok (.getfield 30, 3) := by decide +kernel
theorem dL_acts_253 : decode cL_acts 253 = .ok (.iload_n 3, 1) := by decide +kernel
theorem dL_acts_254 : decode cL_acts 254 = .ok (.aaload, 1) := by decide +kernel
theorem dL_acts_255 : decode cL_acts 255 = .ok (.iload 4, 2) := by decide +kernel
theorem dL_acts_257 : decode cL_acts 257 = .ok (.iaload, 1) := by decide +kernel
theorem dL_acts_258 : decode cL_acts 258 = .ok (.ifCond .ne 12, 3) := by decide +kernel
theorem dL_acts_261 : decode cL_acts 261 = .ok (.aload_n 1, 1) := by decide +kernel
theorem dL_acts_262 : decode cL_acts 262 = .ok (.iconst 0, 1) := by decide +kernel
theorem dL_acts_263 : decode cL_acts 263 = .ok (.iload_n 3, 1) := by decide +kernel
theorem dL_acts_264 : decode cL_acts 264 = .ok (.iload 4, 2) := by decide +kernel
theorem dL_acts_266 : decode cL_acts 266 = .ok (.invokestatic 188, 3) := by decide +kernel
theorem dL_acts_269 : decode cL_acts 269 = .ok (.ireturn, 1) := by decide +kernel
theorem dL_acts_270 : decode cL_acts 270 = .ok (.iload_n 2, 1) := by decide +kernel
theorem dL_acts_271 : decode cL_acts 271 = .ok (.bipush 12, 2) := by decide +kernel
theorem dL_acts_273 : decode cL_acts 273 = .ok (.iconst 2, 1) := by decide +kernel
theorem dL_acts_274 : decode cL_acts 274 = .ok (.invokestatic 184, 3) := by decide +kernel
theorem dL_acts_277 : decode cL_acts 277 = .ok (.ifCond .le 5, 3) := by decide +kernel
theorem dL_acts_280 : decode cL_acts 280 = .ok (.iconst 1, 1) := by decide +kernel
theorem dL_acts_281 : decode cL_acts 281 = .ok (.ireturn, 1) := by decide +kernel
theorem dL_acts_282 : decode cL_acts 282 = .ok (.aload_n 0, 1) := by decide +kernel
theorem dL_acts_283 : decode cL_acts 283 = .ok (.getfield 30, 3) := by decide +kernel
theorem dL_acts_286 : decode cL_acts 286 = .ok (.iload_n 3, 1) := by decide +kernel
theorem dL_acts_287 : decode cL_acts 287 = .ok (.aaload, 1) := by decide +kernel
theorem dL_acts_288 : decode cL_acts 288 = .ok (.iload 4, 2) := by decide +kernel
theorem dL_acts_290 : decode cL_acts 290 = .ok (.iconst 0, 1) := by decide +kernel
theorem dL_acts_291 : decode cL_acts 291 = .ok (.iastore, 1) := by decide +kernel
theorem dL_acts_292 : decode cL_acts 292 = .ok (.aload_n 0, 1) := by decide +kernel
theorem dL_acts_293 : decode cL_acts 293 = .ok (.getfield 30, 3) := by decide +kernel
theorem dL_acts_296 : decode cL_acts 296 = .ok (.iload 4, 2) := by decide +kernel
theorem dL_acts_298 : decode cL_acts 298 = .ok (.aaload, 1) := by decide +kernel
theorem dL_acts_299 : decode cL_acts 299 = .ok (.iload_n 3, 1) := by decide +kernel
theorem dL_acts_300 : decode cL_acts 300 = .ok (.iconst 0, 1) := by decide +kernel
theorem dL_acts_301 : decode cL_acts 301 = .ok (.iastore, 1) := by decide +kernel
theorem dL_acts_302 : decode cL_acts 302 = .ok (.aload_n 0, 1) := by decide +kernel
theorem dL_acts_303 : decode cL_acts 303 = .ok (.invokevirtual 192, 3) := by decide +kernel
theorem dL_acts_306 : decode cL_acts 306 = .ok (.aload_n 1, 1) := by decide +kernel
theorem dL_acts_307 : decode cL_acts 307 = .ok (.iload_n 3, 1) := by decide +kernel
theorem dL_acts_308 : decode cL_acts 308 = .ok (.iload 4, 2) := by decide +kernel
theorem dL_acts_310 : decode cL_acts 310 = .ok (.invokevirtual 175, 3) := by decide +kernel
theorem dL_acts_313 : decode cL_acts 313 = .ok (.ifCond .lt 7, 3) := by decide +kernel
theorem dL_acts_316 : decode cL_acts 316 = .ok (.iconst 1, 1) := by decide +kernel
theorem dL_acts_317 : decode cL_acts 317 = .ok (.goto 4, 3) := by decide +kernel
theorem dL_acts_320 : decode cL_acts 320 = .ok (.iconst 0, 1) := by decide +kernel
theorem dL_acts_321 : decode cL_acts 321 = .ok (.ireturn, 1) := by decide +kernel
theorem dL_acts_322 : decode cL_acts 322 = .ok (.aload_n 0, 1) := by decide +kernel
theorem dL_acts_323 : decode cL_acts 323 = .ok (.getfield 119, 3) := by decide +kernel
theorem dL_acts_326 : decode cL_acts 326 = .ok (.istore 5, 2) := by decide +kernel
theorem dL_acts_328 : decode cL_acts 328 = .ok (.aload_n 0, 1) := by decide +kernel
theorem dL_acts_329 : decode cL_acts 329 = .ok (.iload_n 2, 1) := by decide +kernel
theorem dL_acts_330 : decode cL_acts 330 = .ok (.bipush 12, 2) := by decide +kernel
theorem dL_acts_332 : decode cL_acts 332 = .ok (.iconst 4, 1) := by decide +kernel
theorem dL_acts_333 : decode cL_acts 333 = .ok (.invokestatic 184, 3) := by decide +kernel
theorem dL_acts_336 : decode cL_acts 336 = .ok (.bipush 10, 2) := by decide +kernel
theorem dL_acts_338 : decode cL_acts 338 = .ok (.irem, 1) := by decide +kernel
theorem dL_acts_339 : decode cL_acts 339 = .ok (.putfield 119, 3) := by decide +kernel
theorem dL_acts_342 : decode cL_acts 342 = .ok (.aload_n 1, 1) := by decide +kernel
theorem dL_acts_343 : decode cL_acts 343 = .ok (.bipush 8, 2) := by decide +kernel
theorem dL_acts_345 : decode cL_acts 345 = .ok (.aload_n 0, 1) := by decide +kernel
theorem dL_acts_346 : decode cL_acts 346 = .ok (.getfield 119, 3) := by decide +kernel
theorem dL_acts_349 : decode cL_acts 349 = .ok (.invokevirtual 195, 3) := by decide +kernel
theorem dL_acts_352 : decode cL_acts 352 = .ok (.iload 5, 2) := by decide +kernel
theorem dL_acts_354 : decode cL_acts 354 = .ok (.if_icmp .ne 7, 3) := by decide +kernel
theorem dL_acts_357 : decode cL_acts 357 = .ok (.iconst 1, 1) := by decide +kernel
theorem dL_acts_358 : decode cL_acts 358 = .ok (.goto 4, 3) := by decide +kernel
theorem dL_acts_361 : decode cL_acts 361 = .ok (.iconst 0, 1) := by decide +kernel
theorem dL_acts_362 : decode cL_acts 362 = .ok (.ireturn, 1) := by decide +kernel
theorem dL_acts_363 : decode cL_acts 363 = .ok (.iconst 1, 1) := by decide +kernel
theorem dL_acts_364 : decode cL_acts 364 = .ok (.iload_n 2, 1) := by decide +kernel
theorem dL_acts_365 : decode cL_acts 365 = .ok (.bipush 12, 2) := by decide +kernel
theorem dL_acts_367 : decode cL_acts 367 = .ok (.iconst 4, 1) := by decide +kernel
theorem dL_acts_368 : decode cL_acts 368 = .ok (.invokestatic 184, 3) := by decide +kernel
theorem dL_acts_371 : decode cL_acts 371 = .ok (.iadd, 1) := by decide +kernel
theorem dL_acts_372 : decode cL_acts 372 = .ok (.istore 5, 2) := by decide +kernel
theorem dL_acts_374 : decode cL_acts 374 = .ok (.aload_n 0, 1) := by decide +kernel
theorem dL_acts_375 : decode cL_acts 375 = .ok (.getfield 19, 3) := by decide +kernel
theorem dL_acts_378 : decode cL_acts 378 = .ok (.iload_n 3, 1) := by decide +kernel
theorem dL_acts_379 : decode cL_acts 379 = .ok (.dup2, 1) := by decide +kernel
theorem dL_acts_380 : decode cL_acts 380 = .ok (.iaload, 1) := by decide +kernel
theorem dL_acts_381 : decode cL_acts 381 = .ok (.iload 5, 2) := by decide +kernel
theorem dL_acts_383 : decode cL_acts 383 = .ok (.iadd, 1) := by decide +kernel
theorem dL_acts_384 : decode cL_acts 384 = .ok (.iastore, 1) := by decide +kernel
theorem dL_acts_385 : decode cL_acts 385 = .ok (.aload_n 1, 1) := by decide +kernel
theorem dL_acts_386 : decode cL_acts 386 = .ok (.iload_n 3, 1) := by decide +kernel
theorem dL_acts_387 : decode cL_acts 387 = .ok (.iload 5, 2) := by decide +kernel
theorem dL_acts_389 : decode cL_acts 389 = .ok (.invokevirtual 198, 3) := by decide +kernel
theorem dL_acts_392 : decode cL_acts 392 = .ok (.aload_n 0, 1) := by decide +kernel
theorem dL_acts_393 : decode cL_acts 393 = .ok (.getfield 19, 3) := by decide +kernel
theorem dL_acts_396 : decode cL_acts 396 = .ok (.iload_n 3, 1) := by decide +kernel
theorem dL_acts_397 : decode cL_acts 397 = .ok (.iaload, 1) := by decide +kernel
theorem dL_acts_398 : decode cL_acts 398 = .ok (.if_icmp .ne 7, 3) := by decide +kernel
theorem dL_acts_401 : decode cL_acts 401 = .ok (.iconst 1, 1) := by decide +kernel
theorem dL_acts_402 : decode cL_acts 402 = .ok (.goto 4, 3) := by decide +kernel
theorem dL_acts_405 : decode cL_acts 405 = .ok (.iconst 0, 1) := by decide +kernel
theorem dL_acts_406 : decode cL_acts 406 = .ok (.ireturn, 1) := by decide +kernel
theorem dL_acts_407 : decode cL_acts 407 = .ok (.iconst 1, 1) := by decide +kernel
theorem dL_acts_408 : decode cL_acts 408 = .ok (.iload_n 2, 1) := by decide +kernel
theorem dL_acts_409 : decode cL_acts 409 = .ok (.bipush 12, 2) := by decide +kernel
theorem dL_acts_411 : decode cL_acts 411 = .ok (.iconst 3, 1) := by decide +kernel
theorem dL_acts_412 : decode cL_acts 412 = .ok (.invokestatic 184, 3) := by decide +kernel
theorem dL_acts_415 : decode cL_acts 415 = .ok (.iadd, 1) := by decide +kernel
theorem dL_acts_416 : decode cL_acts 416 = .ok (.istore 5, 2) := by decide +kernel
theorem dL_acts_418 : decode cL_acts 418 = .ok (.aload_n 0, 1) := by decide +kernel
theorem dL_acts_419 : decode cL_acts 419 = .ok (.getfield 137, 3) := by decide +kernel
theorem dL_acts_422 : decode cL_acts 422 = .ok (.istore 6, 2) := by decide +kernel
theorem dL_acts_424 : decode cL_acts 424 = .ok (.iconst 0, 1) := by decide +kernel
theorem dL_acts_425 : decode cL_acts 425 = .ok (.istore 7, 2) := by decide +kernel
theorem dL_acts_427 : decode cL_acts 427 = .ok (.iload 7, 2) := by decide +kernel
theorem dL_acts_429 : decode cL_acts 429 = .ok (.iload 5, 2) := by decide +kernel
theorem dL_acts_431 : decode cL_acts 431 = .ok (.if_icmp .ge 13, 3) := by decide +kernel
theorem dL_acts_434 : decode cL_acts 434 = .ok (.aload_n 0, 1) := by decide +kernel
theorem dL_acts_435 : decode cL_acts 435 = .ok (.invokevirtual 201, 3) := by decide +kernel
theorem dL_acts_438 : decode cL_acts 438 = .ok (.iinc 7 1, 3) := by decide +kernel
theorem dL_acts_441 : decode cL_acts 441 = .ok (.goto (-14), 3) := by decide +kernel
theorem dL_acts_444 : decode cL_acts 444 = .ok (.aload_n 1, 1) := by decide +kernel
theorem dL_acts_445 : decode cL_acts 445 = .ok (.iload 5, 2) := by decide +kernel
theorem dL_acts_447 : decode cL_acts 447 = .ok (.invokevirtual 204, 3) := by decide +kernel
theorem dL_acts_450 : decode cL_acts 450 = .ok (.aload_n 0, 1) := by decide +kernel
theorem dL_acts_451 : decode cL_acts 451 = .ok (.getfield 137, 3) := by decide +kernel
theorem dL_acts_454 : decode cL_acts 454 = .ok (.iload 6, 2) := by decide +kernel
theorem dL_acts_456 : decode cL_acts 456 = .ok (.isub, 1) := by decide +kernel
theorem dL_acts_457 : decode cL_acts 457 = .ok (.if_icmp .ne 7, 3) := by decide +kernel
theorem dL_acts_460 : decode cL_acts 460 = .ok (.iconst 1, 1) := by decide +kernel
theorem dL_acts_461 : decode cL_acts 461 = .ok (.goto 4, 3) := by decide +kernel
theorem dL_acts_464 : decode cL_acts 464 = .ok (.iconst 0, 1) := by decide +kernel
theorem dL_acts_465 : decode cL_acts 465 = .ok (.ireturn, 1) := by decide +kernel
theorem dL_isLike_0 : decode cL_isLike 0 = .ok (.aload_n 1, 1) := by decide +kernel
theorem dL_isLike_1 : decode cL_isLike 1 = .ok (.iconst 2, 1) := by decide +kernel
theorem dL_isLike_2 : decode cL_isLike 2 = .ok (.invokevirtual 207, 3) := by decide +kernel
theorem dL_isLike_5 : decode cL_isLike 5 = .ok (.aload_n 0, 1) := by decide +kernel
theorem dL_isLike_6 : decode cL_isLike 6 = .ok (.getfield 103, 3) := by decide +kernel
theorem dL_isLike_9 : decode cL_isLike 9 = .ok (.if_icmp .ne 116, 3) := by decide +kernel
theorem dL_isLike_12 : decode cL_isLike 12 = .ok (.aload_n 1, 1) := by decide +kernel
theorem dL_isLike_13 : decode cL_isLike 13 = .ok (.bipush 7, 2) := by decide +kernel
theorem dL_isLike_15 : decode cL_isLike 15 = .ok (.invokevirtual 207, 3) := by decide +kernel
theorem dL_isLike_18 : decode cL_isLike 18 = .ok (.aload_n 0, 1) := by decide +kernel
theorem dL_isLike_19 : decode cL_isLike 19 = .ok (.getfield 154, 3) := by decide +kernel
theorem dL_isLike_22 : decode cL_isLike 22 = .ok (.if_icmp .ne 103, 3) := by decide +kernel
theorem dL_isLike_25 : decode cL_isLike 25 = .ok (.aload_n 1, 1) := by decide +kernel
theorem dL_isLike_26 : decode cL_isLike 26 = .ok (.iconst 2, 1) := by decide +kernel
theorem dL_isLike_27 : decode cL_isLike 27 = .ok (.invokevirtual 210, 3) := by decide +kernel
theorem dL_isLike_30 : decode cL_isLike 30 = .ok (.aload_n 0, 1) := by decide +kernel
theorem dL_isLike_31 : decode cL_isLike 31 = .ok (.getfield 110, 3) := by decide +kernel
theorem dL_isLike_34 : decode cL_isLike 34 = .ok (.if_icmp .ne 91, 3) := by decide +kernel
theorem dL_isLike_37 : decode cL_isLike 37 = .ok (.aload_n 1, 1) := by decide +kernel
theorem dL_isLike_38 : decode cL_isLike 38 = .ok (.iconst 3, 1) := by decide +kernel
theorem dL_isLike_39 : decode cL_isLike 39 = .ok (.invokevirtual 210, 3) := by decide +kernel
theorem dL_isLike_42 : decode cL_isLike 42 = .ok (.aload_n 0, 1) := by decide +kernel
theorem dL_isLike_43 : decode cL_isLike 43 = .ok (.getfield 169, 3) := by decide +kernel
theorem dL_isLike_46 : decode cL_isLike 46 = .ok (.if_icmp .ne 79, 3) := by decide +kernel
theorem dL_isLike_49 : decode cL_isLike 49 = .ok (.aload_n 1, 1) := by decide +kernel
theorem dL_isLike_50 : decode cL_isLike 50 = .ok (.iconst 4, 1) := by decide +kernel
theorem dL_isLike_51 : decode cL_isLike 51 = .ok (.invokevirtual 210, 3) := by decide +kernel
theorem dL_isLike_54 : decode cL_isLike 54 = .ok (.aload_n 0, 1) := by decide +kernel
theorem dL_isLike_55 : decode cL_isLike 55 = .ok (.getfield 125, 3) := by decide +kernel
theorem dL_isLike_58 : decode cL_isLike 58 = .ok (.if_icmp .ne 67, 3) := by decide +kernel
theorem dL_isLike_61 : decode cL_isLike 61 = .ok (.aload_n 1, 1) := by decide +kernel
theorem dL_isLike_62 : decode cL_isLike 62 = .ok (.iconst 5, 1) := by decide +kernel
theorem dL_isLike_63 : decode cL_isLike 63 = .ok (.invokevirtual 210, 3) := by decide +kernel
theorem dL_isLike_66 : decode cL_isLike 66 = .ok (.aload_n 0, 1) := by decide +kernel
theorem dL_isLike_67 : decode cL_isLike 67 = .ok (.getfield 137, 3) := by decide +kernel
theorem dL_isLike_70 : decode cL_isLike 70 = .ok (.if_icmp .ne 55, 3) := by decide +kernel
theorem dL_isLike_73 : decode cL_isLike 73 = .ok (.aload_n 1, 1) := by decide +kernel
theorem dL_isLike_74 : decode cL_isLike 74 = .ok (.bipush 6, 2) := by decide +kernel
theorem dL_isLike_76 : decode cL_isLike 76 = .ok (.invokevirtual 210, 3) := by decide +kernel
theorem dL_isLike_79 : decode cL_isLike 79 = .ok (.aload_n 0, 1) := by decide +kernel
theorem dL_isLike_80 : decode cL_isLike 80 = .ok (.getfield 140, 3) := by decide +kernel
theorem dL_isLike_83 : decode cL_isLike 83 = .ok (.if_icmp .ne 42, 3) := by decide +kernel
theorem dL_isLike_86 : decode cL_isLike 86 = .ok (.aload_n 1, 1) := by decide +kernel
theorem dL_isLike_87 : decode cL_isLike 87 = .ok (.bipush 7, 2) := by decide +kernel
theorem dL_isLike_89 : decode cL_isLike 89 = .ok (.invokevirtual 210, 3) := by decide +kernel
theorem dL_isLike_92 : decode cL_isLike 92 = .ok (.aload_n 0, 1) := by decide +kernel
theorem dL_isLike_93 : decode cL_isLike 93 = .ok (.getfield 134, 3) := by decide +kernel
theorem dL_isLike_96 : decode cL_isLike 96 = .ok (.if_icmp .ne 29, 3) := by decide +kernel
theorem dL_isLike_99 : decode cL_isLike 99 = .ok (.aload_n 1, 1) := by decide +kernel
theorem dL_isLike_100 : decode cL_isLike 100 = .ok (.bipush 8, 2) := by decide +kernel
theorem dL_isLike_102 : decode cL_isLike 102 = .ok (.invokevirtual 210, 3) := by decide +kernel
theorem dL_isLike_105 : decode cL_isLike 105 = .ok (.aload_n 0, 1) := by decide +kernel
theorem dL_isLike_106 : decode cL_isLike 106 = .ok (.getfield 172, 3) := by decide +kernel
theorem dL_isLike_109 : decode cL_isLike 109 = .ok (.if_icmp .ne 16, 3) := by decide +kernel
theorem dL_isLike_112 : decode cL_isLike 112 = .ok (.aload_n 1, 1) := by decide +kernel
theorem dL_isLike_113 : decode cL_isLike 113 = .ok (.bipush 9, 2) := by decide +kernel
theorem dL_isLike_115 : decode cL_isLike 115 = .ok (.invokevirtual 210, 3) := by decide +kernel
theorem dL_isLike_118 : decode cL_isLike 118 = .ok (.aload_n 0, 1) := by decide +kernel
theorem dL_isLike_119 : decode cL_isLike 119 = .ok (.getfield 166, 3) := by decide +kernel
theorem dL_isLike_122 : decode cL_isLike 122 = .ok (.if_icmp .eq 5, 3) := by decide +kernel
theorem dL_isLike_125 : decode cL_isLike 125 = .ok (.iconst 0, 1) := by decide +kernel
theorem dL_isLike_126 : decode cL_isLike 126 = .ok (.ireturn, 1) := by decide +kernel
theorem dL_isLike_127 : decode cL_isLike 127 = .ok (.iconst 0, 1) := by decide +kernel
theorem dL_isLike_128 : decode cL_isLike 128 = .ok (.istore_n 2, 1) := by decide +kernel
theorem dL_isLike_129 : decode cL_isLike 129 = .ok (.iload_n 2, 1) := by decide +kernel
theorem dL_isLike_130 : decode cL_isLike 130 = .ok (.aload_n 0, 1) := by decide +kernel
theorem dL_isLike_131 : decode cL_isLike 131 = .ok (.getfield 93, 3) := by decide +kernel
theorem dL_isLike_134 : decode cL_isLike 134 = .ok (.if_icmp .ge 134, 3) := by decide +kernel
theorem dL_isLike_137 : decode cL_isLike 137 = .ok (.aload_n 1, 1) := by decide +kernel
theorem dL_isLike_138 : decode cL_isLike 138 = .ok (.iload_n 2, 1) := by decide +kernel
theorem dL_isLike_139 : decode cL_isLike 139 = .ok (.iconst 3, 1) := by decide +kernel
theorem dL_isLike_140 : decode cL_isLike 140 = .ok (.invokevirtual 213, 3) := by decide +kernel
theorem dL_isLike_143 : decode cL_isLike 143 = .ok (.aload_n 0, 1) := by decide +kernel
theorem dL_isLike_144 : decode cL_isLike 144 = .ok (.getfield 19, 3) := by decide +kernel
theorem dL_isLike_147 : decode cL_isLike 147 = .ok (.iload_n 2, 1) := by decide +kernel
theorem dL_isLike_148 : decode cL_isLike 148 = .ok (.iaload, 1) := by decide +kernel
theorem dL_isLike_149 : decode cL_isLike 149 = .ok (.if_icmp .ne 43, 3) := by decide +kernel
theorem dL_isLike_152 : decode cL_isLike 152 = .ok (.aload_n 1, 1) := by decide +kernel
theorem dL_isLike_153 : decode cL_isLike 153 = .ok (.iload_n 2, 1) := by decide +kernel
theorem dL_isLike_154 : decode cL_isLike 154 = .ok (.iconst 4, 1) := by decide +kernel
theorem dL_isLike_155 : decode cL_isLike 155 = .ok (.invokevirtual 213, 3) := by decide +kernel
theorem dL_isLike_158 : decode cL_isLike 158 = .ok (.iconst 0, 1) := by decide +kernel
theorem dL_isLike_159 : decode cL_isLike 159 = .ok (.aload_n 0, 1) := by decide +kernel
theorem dL_isLike_160 : decode cL_isLike 160 = .ok (.getfield 22, 3) := by decide +kernel
theorem dL_isLike_163 : decode cL_isLike 163 = .ok (.iload_n 2, 1) := by decide +kernel
theorem dL_isLike_164 : decode cL_isLike 164 = .ok (.iaload, 1) := by decide +kernel
theorem dL_isLike_165 : decode cL_isLike 165 = .ok (.aload_n 0, 1) := by decide +kernel
theorem dL_isLike_166 : decode cL_isLike 166 = .ok (.getfield 154, 3) := by decide +kernel
theorem dL_isLike_169 : decode cL_isLike 169 = .ok (.isub, 1) := by decide +kernel
theorem dL_isLike_170 : decode cL_isLike 170 = .ok (.invokestatic 122, 3) := by decide +kernel
theorem dL_isLike_173 : decode cL_isLike 173 = .ok (.if_icmp .ne 19, 3) := by decide +kernel
theorem dL_isLike_176 : decode cL_isLike 176 = .ok (.aload_n 1, 1) := by decide +kernel
theorem dL_isLike_177 : decode cL_isLike 177 = .ok (.iload_n 2, 1) := by decide +kernel
theorem dL_isLike_178 : decode cL_isLike 178 = .ok (.bipush 7, 2) := by decide +kernel
theorem dL_isLike_180 : decode cL_isLike 180 = .ok (.invokevirtual 213, 3) := by decide +kernel
theorem dL_isLike_183 : decode cL_isLike 183 = .ok (.aload_n 0, 1) := by decide +kernel
theorem dL_isLike_184 : decode cL_isLike 184 = .ok (.getfield 25, 3) := by decide +kernel
theorem dL_isLike_187 : decode cL_isLike 187 = .ok (.iload_n 2, 1) := by decide +kernel
theorem dL_isLike_188 : decode cL_isLike 188 = .ok (.iaload, 1) := by decide +kernel
theorem dL_isLike_189 : decode cL_isLike 189 = .ok (.if_icmp .eq 5, 3) := by decide +kernel
theorem dL_isLike_192 : decode cL_isLike 192 = .ok (.iconst 0, 1) := by decide +kernel
theorem dL_isLike_193 : decode cL_isLike 193 = .ok (.ireturn, 1) := by decide +kernel
theorem dL_isLike_194 : decode cL_isLike 194 = .ok (.iconst 0, 1) := by decide +kernel
theorem dL_isLike_195 : decode cL_isLike 195 = .ok (.istore_n 3, 1) := by decide +kernel
theorem dL_isLike_196 : decode cL_isLike 196 = .ok (.iload_n 3, 1) := by decide +kernel
theorem dL_isLike_197 : decode cL_isLike 197 = .ok (.aload_n 0, 1) := by decide +kernel
theorem dL_isLike_198 : decode cL_isLike 198 = .ok (.getfield 93, 3) := by decide +kernel
theorem dL_isLike_201 : decode cL_isLike 201 = .ok (.if_icmp .ge 61, 3) := by decide +kernel
theorem dL_isLike_204 : decode cL_isLike 204 = .ok (.aload_n 1, 1) := by decide +kernel
theorem dL_isLike_205 : decode cL_isLike 205 = .ok (.iload_n 2, 1) := by decide +kernel
theorem dL_isLike_206 : decode cL_isLike 206 = .ok (.iload_n 3, 1) := by decide +kernel
theorem dL_isLike_207 : decode cL_isLike 207 = .ok (.invokevirtual 216, 3) := by decide +kernel
theorem dL_isLike_210 : decode cL_isLike 210 = .ok (.aload_n 0, 1) := by decide +kernel
theorem dL_isLike_211 : decode cL_isLike 211 = .ok (.getfield 33, 3) := by decide +kernel
theorem dL_isLike_214 : decode cL_isLike 214 = .ok (.iload_n 2, 1) := by decide +kernel
theorem dL_isLike_215 : decode cL_isLike 215 = .ok (.aaload, 1) := by decide +kernel
theorem dL_isLike_216 : decode cL_isLike 216 = .ok (.iload_n 3, 1) := by decide +kernel
theorem dL_isLike_217 : decode cL_isLike 217 = .ok (.iaload, 1) := by decide +kernel
theorem dL_isLike_218 : decode cL_isLike 218 = .ok (.sipush 9999, 3) := by decide +kernel
theorem dL_isLike_221 : decode cL_isLike 221 = .ok (.if_icmp .ge 14, 3) := by decide +kernel
theorem dL_isLike_224 : decode cL_isLike 224 = .ok (.aload_n 0, 1) := by decide +kernel
theorem dL_isLike_225 : decode cL_isLike 225 = .ok (.getfield 33, 3) := by decide +kernel
theorem dL_isLike_228 : decode cL_isLike 228 = .ok (.iload_n 2, 1) := by decide +kernel
theorem dL_isLike_229 : decode cL_isLike 229 = .ok (.aaload, 1) := by decide +kernel
theorem dL_isLike_230 : decode cL_isLike 230 = .ok (.iload_n 3, 1) := by decide +kernel
theorem dL_isLike_231 : decode cL_isLike 231 = .ok (.iaload, 1) := by decide +kernel
theorem dL_isLike_232 : decode cL_isLike 232 = .ok (.goto 4, 3) := by decide +kernel
theorem dL_isLike_235 : decode cL_isLike 235 = .ok (.iconst (-1), 1) := by decide +kernel
theorem dL_isLike_236 : decode cL_isLike 236 = .ok (.if_icmp .ne 18, 3) := by decide +kernel
theorem dL_isLike_239 : decode cL_isLike 239 = .ok (.aload_n 1, 1) := by decide +kernel
theorem dL_isLike_240 : decode cL_isLike 240 = .ok (.iload_n 2, 1) := by decide +kernel
theorem dL_isLike_241 : decode cL_isLike 241 = .ok (.iload_n 3, 1) := by decide +kernel
theorem dL_isLike_242 : decode cL_isLike 242 = .ok (.invokevirtual 219, 3) := by decide +kernel
theorem dL_isLike_245 : decode cL_isLike 245 = .ok (.aload_n 0, 1) := by decide +kernel
theorem dL_isLike_246 : decode cL_isLike 246 = .ok (.iload_n 2, 1) := by decide +kernel
theorem dL_isLike_247 : decode cL_isLike 247 = .ok (.iload_n 3, 1) := by decide +kernel
theorem dL_isLike_248 : decode cL_isLike 248 = .ok (.invokevirtual 147, 3) := by decide +kernel
theorem dL_isLike_251 : decode cL_isLike 251 = .ok (.if_icmp .eq 5, 3) := by decide +kernel
theorem dL_isLike_254 : decode cL_isLike 254 = .ok (.iconst 0, 1) := by decide +kernel
theorem dL_isLike_255 : decode cL_isLike 255 = .ok (.ireturn, 1) := by decide +kernel
theorem dL_isLike_256 : decode cL_isLike 256 = .ok (.iinc 3 1, 3) := by decide +kernel
theorem dL_isLike_259 : decode cL_isLike 259 = .ok (.goto (-63), 3) := by decide +kernel
theorem dL_isLike_262 : decode cL_isLike 262 = .ok (.iinc 2 1, 3) := by decide +kernel
theorem dL_isLike_265 : decode cL_isLike 265 = .ok (.goto (-136), 3) := by decide +kernel
theorem dL_isLike_268 : decode cL_isLike 268 = .ok (.iconst 0, 1) := by decide +kernel
theorem dL_isLike_269 : decode cL_isLike 269 = .ok (.istore_n 2, 1) := by decide +kernel
theorem dL_isLike_270 : decode cL_isLike 270 = .ok (.iload_n 2, 1) := by decide +kernel
theorem dL_isLike_271 : decode cL_isLike 271 = .ok (.aload_n 0, 1) := by decide +kernel
theorem dL_isLike_272 : decode cL_isLike 272 = .ok (.getfield 103, 3) := by decide +kernel
theorem dL_isLike_275 : decode cL_isLike 275 = .ok (.if_icmp .ge 190, 3) := by decide +kernel
theorem dL_isLike_278 : decode cL_isLike 278 = .ok (.aload_n 1, 1) := by decide +kernel
theorem dL_isLike_279 : decode cL_isLike 279 = .ok (.iload_n 2, 1) := by decide +kernel
theorem dL_isLike_280 : decode cL_isLike 280 = .ok (.iconst 0, 1) := by decide +kernel
theorem dL_isLike_281 : decode cL_isLike 281 = .ok (.invokevirtual 220, 3) := by decide +kernel
theorem dL_isLike_284 : decode cL_isLike 284 = .ok (.aload_n 0, 1) := by decide +kernel
theorem dL_isLike_285 : decode cL_isLike 285 = .ok (.getfield 36, 3) := by decide +kernel
theorem dL_isLike_288 : decode cL_isLike 288 = .ok (.iload_n 2, 1) := by decide +kernel
theorem dL_isLike_289 : decode cL_isLike 289 = .ok (.iaload, 1) := by decide +kernel
theorem dL_isLike_290 : decode cL_isLike 290 = .ok (.if_icmp .ne 110, 3) := by decide +kernel
theorem dL_isLike_293 : decode cL_isLike 293 = .ok (.aload_n 1, 1) := by decide +kernel
theorem dL_isLike_294 : decode cL_isLike 294 = .ok (.iload_n 2, 1) := by decide +kernel
theorem dL_isLike_295 : decode cL_isLike 295 = .ok (.iconst 3, 1) := by decide +kernel
theorem dL_isLike_296 : decode cL_isLike 296 = .ok (.invokevirtual 220, 3) := by decide +kernel
theorem dL_isLike_299 : decode cL_isLike 299 = .ok (.aload_n 0, 1) := by decide +kernel
theorem dL_isLike_300 : decode cL_isLike 300 = .ok (.getfield 42, 3) := by decide +kernel
theorem dL_isLike_303 : decode cL_isLike 303 = .ok (.iload_n 2, 1) := by decide +kernel
theorem dL_isLike_304 : decode cL_isLike 304 = .ok (.iaload, 1) := by decide +kernel
theorem dL_isLike_305 : decode cL_isLike 305 = .ok (.if_icmp .ne 95, 3) := by decide +kernel
theorem dL_isLike_308 : decode cL_isLike 308 = .ok (.aload_n 1, 1) := by decide +kernel
theorem dL_isLike_309 : decode cL_isLike 309 = .ok (.iload_n 2, 1) := by decide +kernel
theorem dL_isLike_310 : decode cL_isLike 310 = .ok (.iconst 4, 1) := by decide +kernel
theorem dL_isLike_311 : decode cL_isLike 311 = .ok (.invokevirtual 220, 3) := by decide +kernel
theorem dL_isLike_314 : decode cL_isLike 314 = .ok (.aload_n 0, 1) := by decide +kernel
theorem dL_isLike_315 : decode cL_isLike 315 = .ok (.getfield 45, 3) := by decide +kernel
theorem dL_isLike_318 : decode cL_isLike 318 = .ok (.iload_n 2, 1) := by decide +kernel
theorem dL_isLike_319 : decode cL_isLike 319 = .ok (.iaload, 1) := by decide +kernel
theorem dL_isLike_320 : decode cL_isLike 320 = .ok (.if_icmp .ne 80, 3) := by decide +kernel
theorem dL_isLike_323 : decode cL_isLike 323 = .ok (.aload_n 1, 1) := by decide +kernel
theorem dL_isLike_324 : decode cL_isLike 324 = .ok (.iload_n 2, 1) := by decide +kernel
theorem dL_isLike_325 : decode cL_isLike 325 = .ok (.iconst 5, 1) := by decide +kernel
theorem dL_isLike_326 : decode cL_isLike 326 = .ok (.invokevirtual 220, 3) := by decide +kernel
theorem dL_isLike_329 : decode cL_isLike 329 = .ok (.aload_n 0, 1) := by decide +kernel
theorem dL_isLike_330 : decode cL_isLike 330 = .ok (.getfield 42, 3) := by decide +kernel
theorem dL_isLike_333 : decode cL_isLike 333 = .ok (.iload_n 2, 1) := by decide +kernel
theorem dL_isLike_334 : decode cL_isLike 334 = .ok (.iaload, 1) := by decide +kernel
theorem dL_isLike_335 : decode cL_isLike 335 = .ok (.iconst 1, 1) := by decide +kernel
theorem dL_isLike_336 : decode cL_isLike 336 = .ok (.if_icmp .ne 12, 3) := by decide +kernel
theorem dL_isLike_339 : decode cL_isLike 339 = .ok (.aload_n 0, 1) := by decide +kernel
theorem dL_isLike_340 : decode cL_isLike 340 = .ok (.getfield 48, 3) := by decide +kernel
theorem dL_isLike_343 : decode cL_isLike 343 = .ok (.iload_n 2, 1) := by decide +kernel
theorem dL_isLike_344 : decode cL_isLike 344 = .ok (.iaload, 1) := by decide +kernel
theorem dL_isLike_345 : decode cL_isLike 345 = .ok (.goto 4, 3) := by decide +kernel
theorem dL_isLike_348 : decode cL_isLike 348 = .ok (.iconst (-1), 1) := by decide +kernel
theorem dL_isLike_349 : decode cL_isLike 349 = .ok (.if_icmp .ne 51, 3) := by decide +kernel
theorem dL_isLike_352 : decode cL_isLike 352 = .ok (.aload_n 1, 1) := by decide +kernel
theorem dL_isLike_353 : decode cL_isLike 353 = .ok (.iload_n 2, 1) := by decide +kernel
theorem dL_isLike_354 : decode cL_isLike 354 = .ok (.bipush 6, 2) := by decide +kernel
theorem dL_isLike_356 : decode cL_isLike 356 = .ok (.invokevirtual 220, 3) := by decide +kernel
theorem dL_isLike_359 : decode cL_isLike 359 = .ok (.aload_n 0, 1) := by decide +kernel
theorem dL_isLike_360 : decode cL_isLike 360 = .ok (.getfield 63, 3) := by decide +kernel
theorem dL_isLike_363 : decode cL_isLike 363 = .ok (.iload_n 2, 1) := by decide +kernel
theorem dL_isLike_364 : decode cL_isLike 364 = .ok (.iaload, 1) := by decide +kernel
theorem dL_isLike_365 : decode cL_isLike 365 = .ok (.if_icmp .ne 35, 3) := by decide +kernel
theorem dL_isLike_368 : decode cL_isLike 368 = .ok (.aload_n 1, 1) := by decide +kernel
theorem dL_isLike_369 : decode cL_isLike 369 = .ok (.iload_n 2, 1) := by decide +kernel
theorem dL_isLike_370 : decode cL_isLike 370 = .ok (.bipush 8, 2) := by decide +kernel
theorem dL_isLike_372 : decode cL_isLike 372 = .ok (.invokevirtual 220, 3) := by decide +kernel
theorem dL_isLike_375 : decode cL_isLike 375 = .ok (.aload_n 0, 1) := by decide +kernel
theorem dL_isLike_376 : decode cL_isLike 376 = .ok (.getfield 54, 3) := by decide +kernel
theorem dL_isLike_379 : decode cL_isLike 379 = .ok (.iload_n 2, 1) := by decide +kernel
theorem dL_isLike_380 : decode cL_isLike 380 = .ok (.iaload, 1) := by decide +kernel
theorem dL_isLike_381 : decode cL_isLike 381 = .ok (.if_icmp .ne 19, 3) := by decide +kernel
theorem dL_isLike_384 : decode cL_isLike 384 = .ok (.aload_n 1, 1) := by decide +kernel
theorem dL_isLike_385 : decode cL_isLike 385 = .ok (.iload_n 2, 1) := by decide +kernel
theorem dL_isLike_386 : decode cL_isLike 386 = .ok (.bipush 11, 2) := by decide +kernel
theorem dL_isLike_388 : decode cL_isLike 388 = .ok (.invokevirtual 220, 3) := by decide +kernel
theorem dL_isLike_391 : decode cL_isLike 391 = .ok (.aload_n 0, 1) := by decide +kernel
