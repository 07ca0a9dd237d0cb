theorem dX8_whistleAll_47 : decode cX8_whistleAll 47 = .ok (.aload_n 0, 1) := by decide +kernel
theorem dX8_whistleAll_48 : decode cX8_whistleAll 48 = .ok (.iload_n 2, 1) := by decide +kernel
theorem dX8_whistleAll_49 : decode cX8_whistleAll 49 = .ok (.iload_n 3, 1) := by decide +kernel
theorem dX8_whistleAll_50 : decode cX8_whistleAll 50 = .ok (.invokestatic 93, 3) := by decide +kernel
theorem dX8_whistleAll_53 : decode cX8_whistleAll 53 = .ok (.iinc 2 1, 3) := by decide +kernel
theorem dX8_whistleAll_56 : decode cX8_whistleAll 56 = .ok (.goto (-49), 3) := by decide +kernel
theorem dX8_whistleAll_59 : decode cX8_whistleAll 59 = .ok (.return_, 1) := by decide +kernel
theorem dX8_roofsWithTunes_0 : decode cX8_roofsWithTunes 0 = .ok (.iconst 0, 1) := by decide +kernel
theorem dX8_roofsWithTunes_1 : decode cX8_roofsWithTunes 1 = .ok (.istore_n 1, 1) := by decide +kernel
theorem dX8_roofsWithTunes_2 : decode cX8_roofsWithTunes 2 = .ok (.iconst 0, 1) := by decide +kernel
theorem dX8_roofsWithTunes_3 : decode cX8_roofsWithTunes 3 = .ok (.istore_n 2, 1) := by decide +kernel
theorem dX8_roofsWithTunes_4 : decode cX8_roofsWithTunes 4 = .ok (.iload_n 2, 1) := by decide +kernel
theorem dX8_roofsWithTunes_5 : decode cX8_roofsWithTunes 5 = .ok (.aload_n 0, 1) := by decide +kernel
theorem dX8_roofsWithTunes_6 : decode cX8_roofsWithTunes 6 = .ok (.getfield 35, 3) := by decide +kernel
theorem dX8_roofsWithTunes_9 : decode cX8_roofsWithTunes 9 = .ok (.if_icmp .ge 35, 3) := by decide +kernel
theorem dX8_roofsWithTunes_12 : decode cX8_roofsWithTunes 12 = .ok (.aload_n 0, 1) := by decide +kernel
theorem dX8_roofsWithTunes_13 : decode cX8_roofsWithTunes 13 = .ok (.getfield 38, 3) := by decide +kernel
theorem dX8_roofsWithTunes_16 : decode cX8_roofsWithTunes 16 = .ok (.iload_n 2, 1) := by decide +kernel
theorem dX8_roofsWithTunes_17 : decode cX8_roofsWithTunes 17 = .ok (.iconst 3, 1) := by decide +kernel
theorem dX8_roofsWithTunes_18 : decode cX8_roofsWithTunes 18 = .ok (.invokevirtual 42, 3) := by decide +kernel
theorem dX8_roofsWithTunes_21 : decode cX8_roofsWithTunes 21 = .ok (.ifCond .ne 17, 3) := by decide +kernel
theorem dX8_roofsWithTunes_24 : decode cX8_roofsWithTunes 24 = .ok (.iload_n 1, 1) := by decide +kernel
theorem dX8_roofsWithTunes_25 : decode cX8_roofsWithTunes 25 = .ok (.iconst 1, 1) := by decide +kernel
theorem dX8_roofsWithTunes_26 : decode cX8_roofsWithTunes 26 = .ok (.aload_n 0, 1) := by decide +kernel
theorem dX8_roofsWithTunes_27 : decode cX8_roofsWithTunes 27 = .ok (.getfield 38, 3) := by decide +kernel
theorem dX8_roofsWithTunes_30 : decode cX8_roofsWithTunes 30 = .ok (.iload_n 2, 1) := by decide +kernel
theorem dX8_roofsWithTunes_31 : decode cX8_roofsWithTunes 31 = .ok (.iconst 4, 1) := by decide +kernel
theorem dX8_roofsWithTunes_32 : decode cX8_roofsWithTunes 32 = .ok (.invokevirtual 42, 3) := by decide +kernel
theorem dX8_roofsWithTunes_35 : decode cX8_roofsWithTunes 35 = .ok (.ishl, 1) := by decide +kernel
theorem dX8_roofsWithTunes_36 : decode cX8_roofsWithTunes 36 = .ok (.ior, 1) := by decide +kernel
theorem dX8_roofsWithTunes_37 : decode cX8_roofsWithTunes 37 = .ok (.istore_n 1, 1) := by decide +kernel
theorem dX8_roofsWithTunes_38 : decode cX8_roofsWithTunes 38 = .ok (.iinc 2 1, 3) := by decide +kernel
theorem dX8_roofsWithTunes_41 : decode cX8_roofsWithTunes 41 = .ok (.goto (-37), 3) := by decide +kernel
theorem dX8_roofsWithTunes_44 : decode cX8_roofsWithTunes 44 = .ok (.iload_n 1, 1) := by decide +kernel
theorem dX8_roofsWithTunes_45 : decode cX8_roofsWithTunes 45 = .ok (.ireturn, 1) := by decide +kernel
theorem dX8_whistle_0 : decode cX8_whistle 0 = .ok (.aload_n 0, 1) := by decide +kernel
theorem dX8_whistle_1 : decode cX8_whistle 1 = .ok (.getfield 97, 3) := by decide +kernel
theorem dX8_whistle_4 : decode cX8_whistle 4 = .ok (.iload_n 1, 1) := by decide +kernel
theorem dX8_whistle_5 : decode cX8_whistle 5 = .ok (.iconst 2, 1) := by decide +kernel
theorem dX8_whistle_6 : decode cX8_whistle 6 = .ok (.invokevirtual 42, 3) := by decide +kernel
theorem dX8_whistle_9 : decode cX8_whistle 9 = .ok (.aload_n 0, 1) := by decide +kernel
theorem dX8_whistle_10 : decode cX8_whistle 10 = .ok (.iload_n 2, 1) := by decide +kernel
theorem dX8_whistle_11 : decode cX8_whistle 11 = .ok (.invokevirtual 100, 3) := by decide +kernel
theorem dX8_whistle_14 : decode cX8_whistle 14 = .ok (.imul, 1) := by decide +kernel
theorem dX8_whistle_15 : decode cX8_whistle 15 = .ok (.istore_n 3, 1) := by decide +kernel
theorem dX8_whistle_16 : decode cX8_whistle 16 = .ok (.aload_n 0, 1) := by decide +kernel
theorem dX8_whistle_17 : decode cX8_whistle 17 = .ok (.getfield 97, 3) := by decide +kernel
theorem dX8_whistle_20 : decode cX8_whistle 20 = .ok (.aload_n 0, 1) := by decide +kernel
theorem dX8_whistle_21 : decode cX8_whistle 21 = .ok (.getfield 38, 3) := by decide +kernel
theorem dX8_whistle_24 : decode cX8_whistle 24 = .ok (.iload_n 2, 1) := by decide +kernel
theorem dX8_whistle_25 : decode cX8_whistle 25 = .ok (.iconst 0, 1) := by decide +kernel
theorem dX8_whistle_26 : decode cX8_whistle 26 = .ok (.invokevirtual 42, 3) := by decide +kernel
theorem dX8_whistle_29 : decode cX8_whistle 29 = .ok (.iconst 3, 1) := by decide +kernel
theorem dX8_whistle_30 : decode cX8_whistle 30 = .ok (.iload_n 3, 1) := by decide +kernel
theorem dX8_whistle_31 : decode cX8_whistle 31 = .ok (.ineg, 1) := by decide +kernel
theorem dX8_whistle_32 : decode cX8_whistle 32 = .ok (.invokevirtual 69, 3) := by decide +kernel
theorem dX8_whistle_35 : decode cX8_whistle 35 = .ok (.aload_n 0, 1) := by decide +kernel
theorem dX8_whistle_36 : decode cX8_whistle 36 = .ok (.getfield 97, 3) := by decide +kernel
theorem dX8_whistle_39 : decode cX8_whistle 39 = .ok (.iload_n 1, 1) := by decide +kernel
theorem dX8_whistle_40 : decode cX8_whistle 40 = .ok (.iconst 3, 1) := by decide +kernel
theorem dX8_whistle_41 : decode cX8_whistle 41 = .ok (.iload_n 3, 1) := by decide +kernel
theorem dX8_whistle_42 : decode cX8_whistle 42 = .ok (.invokevirtual 69, 3) := by decide +kernel
theorem dX8_whistle_45 : decode cX8_whistle 45 = .ok (.aload_n 0, 1) := by decide +kernel
theorem dX8_whistle_46 : decode cX8_whistle 46 = .ok (.bipush 9, 2) := by decide +kernel
theorem dX8_whistle_48 : decode cX8_whistle 48 = .ok (.iload_n 3, 1) := by decide +kernel
theorem dX8_whistle_49 : decode cX8_whistle 49 = .ok (.invokevirtual 15, 3) := by decide +kernel
theorem dX8_whistle_52 : decode cX8_whistle 52 = .ok (.aload_n 0, 1) := by decide +kernel
theorem dX8_whistle_53 : decode cX8_whistle 53 = .ok (.iload_n 2, 1) := by decide +kernel
theorem dX8_whistle_54 : decode cX8_whistle 54 = .ok (.invokevirtual 103, 3) := by decide +kernel
theorem dX8_whistle_57 : decode cX8_whistle 57 = .ok (.istore 4, 2) := by decide +kernel
theorem dX8_whistle_59 : decode cX8_whistle 59 = .ok (.aload_n 0, 1) := by decide +kernel
theorem dX8_whistle_60 : decode cX8_whistle 60 = .ok (.getfield 106, 3) := by decide +kernel
theorem dX8_whistle_63 : decode cX8_whistle 63 = .ok (.getfield 110, 3) := by decide +kernel
theorem dX8_whistle_66 : decode cX8_whistle 66 = .ok (.iload_n 1, 1) := by decide +kernel
theorem dX8_whistle_67 : decode cX8_whistle 67 = .ok (.iload 4, 2) := by decide +kernel
theorem dX8_whistle_69 : decode cX8_whistle 69 = .ok (.invokevirtual 42, 3) := by decide +kernel
theorem dX8_whistle_72 : decode cX8_whistle 72 = .ok (.istore 5, 2) := by decide +kernel
theorem dX8_whistle_74 : decode cX8_whistle 74 = .ok (.aload_n 0, 1) := by decide +kernel
theorem dX8_whistle_75 : decode cX8_whistle 75 = .ok (.getfield 9, 3) := by decide +kernel
theorem dX8_whistle_78 : decode cX8_whistle 78 = .ok (.aload_n 0, 1) := by decide +kernel
theorem dX8_whistle_79 : decode cX8_whistle 79 = .ok (.iload_n 1, 1) := by decide +kernel
theorem dX8_whistle_80 : decode cX8_whistle 80 = .ok (.iload_n 2, 1) := by decide +kernel
theorem dX8_whistle_81 : decode cX8_whistle 81 = .ok (.invokestatic 115, 3) := by decide +kernel
theorem dX8_whistle_84 : decode cX8_whistle 84 = .ok (.iadd, 1) := by decide +kernel
theorem dX8_whistle_85 : decode cX8_whistle 85 = .ok (.istore 6, 2) := by decide +kernel
theorem dX8_whistle_87 : decode cX8_whistle 87 = .ok (.aload_n 0, 1) := by decide +kernel
theorem dX8_whistle_88 : decode cX8_whistle 88 = .ok (.getfield 97, 3) := by decide +kernel
theorem dX8_whistle_91 : decode cX8_whistle 91 = .ok (.iload_n 1, 1) := by decide +kernel
theorem dX8_whistle_92 : decode cX8_whistle 92 = .ok (.iconst 4, 1) := by decide +kernel
theorem dX8_whistle_93 : decode cX8_whistle 93 = .ok (.iload 6, 2) := by decide +kernel
theorem dX8_whistle_95 : decode cX8_whistle 95 = .ok (.invokevirtual 62, 3) := by decide +kernel
theorem dX8_whistle_98 : decode cX8_whistle 98 = .ok (.aload_n 0, 1) := by decide +kernel
theorem dX8_whistle_99 : decode cX8_whistle 99 = .ok (.getfield 97, 3) := by decide +kernel
theorem dX8_whistle_102 : decode cX8_whistle 102 = .ok (.iload_n 1, 1) := by decide +kernel
theorem dX8_whistle_103 : decode cX8_whistle 103 = .ok (.bipush 7, 2) := by decide +kernel
theorem dX8_whistle_105 : decode cX8_whistle 105 = .ok (.iconst 1, 1) := by decide +kernel
theorem dX8_whistle_106 : decode cX8_whistle 106 = .ok (.invokevirtual 69, 3) := by decide +kernel
theorem dX8_whistle_109 : decode cX8_whistle 109 = .ok (.aload_n 0, 1) := by decide +kernel
theorem dX8_whistle_110 : decode cX8_whistle 110 = .ok (.getfield 38, 3) := by decide +kernel
theorem dX8_whistle_113 : decode cX8_whistle 113 = .ok (.iload_n 2, 1) := by decide +kernel
theorem dX8_whistle_114 : decode cX8_whistle 114 = .ok (.iconst 3, 1) := by decide +kernel
theorem dX8_whistle_115 : decode cX8_whistle 115 = .ok (.iconst 1, 1) := by decide +kernel
theorem dX8_whistle_116 : decode cX8_whistle 116 = .ok (.invokevirtual 62, 3) := by decide +kernel
theorem dX8_whistle_119 : decode cX8_whistle 119 = .ok (.aload_n 0, 1) := by decide +kernel
theorem dX8_whistle_120 : decode cX8_whistle 120 = .ok (.getfield 38, 3) := by decide +kernel
theorem dX8_whistle_123 : decode cX8_whistle 123 = .ok (.iload_n 2, 1) := by decide +kernel
theorem dX8_whistle_124 : decode cX8_whistle 124 = .ok (.iconst 4, 1) := by decide +kernel
theorem dX8_whistle_125 : decode cX8_whistle 125 = .ok (.iload 4, 2) := by decide +kernel
theorem dX8_whistle_127 : decode cX8_whistle 127 = .ok (.invokevirtual 62, 3) := by decide +kernel
theorem dX8_whistle_130 : decode cX8_whistle 130 = .ok (.aload_n 0, 1) := by decide +kernel
theorem dX8_whistle_131 : decode cX8_whistle 131 = .ok (.getfield 38, 3) := by decide +kernel
theorem dX8_whistle_134 : decode cX8_whistle 134 = .ok (.iload_n 2, 1) := by decide +kernel
theorem dX8_whistle_135 : decode cX8_whistle 135 = .ok (.iconst 5, 1) := by decide +kernel
theorem dX8_whistle_136 : decode cX8_whistle 136 = .ok (.iload 6, 2) := by decide +kernel
theorem dX8_whistle_138 : decode cX8_whistle 138 = .ok (.iload 5, 2) := by decide +kernel
theorem dX8_whistle_140 : decode cX8_whistle 140 = .ok (.iadd, 1) := by decide +kernel
theorem dX8_whistle_141 : decode cX8_whistle 141 = .ok (.invokevirtual 62, 3) := by decide +kernel
theorem dX8_whistle_144 : decode cX8_whistle 144 = .ok (.aload_n 0, 1) := by decide +kernel
theorem dX8_whistle_145 : decode cX8_whistle 145 = .ok (.getfield 38, 3) := by decide +kernel
theorem dX8_whistle_148 : decode cX8_whistle 148 = .ok (.iload_n 2, 1) := by decide +kernel
theorem dX8_whistle_149 : decode cX8_whistle 149 = .ok (.bipush 12, 2) := by decide +kernel
theorem dX8_whistle_151 : decode cX8_whistle 151 = .ok (.iload 5, 2) := by decide +kernel
theorem dX8_whistle_153 : decode cX8_whistle 153 = .ok (.invokevirtual 62, 3) := by decide +kernel
theorem dX8_whistle_156 : decode cX8_whistle 156 = .ok (.aload_n 0, 1) := by decide +kernel
theorem dX8_whistle_157 : decode cX8_whistle 157 = .ok (.getfield 38, 3) := by decide +kernel
theorem dX8_whistle_160 : decode cX8_whistle 160 = .ok (.iload_n 2, 1) := by decide +kernel
theorem dX8_whistle_161 : decode cX8_whistle 161 = .ok (.bipush 11, 2) := by decide +kernel
theorem dX8_whistle_163 : decode cX8_whistle 163 = .ok (.iconst 1, 1) := by decide +kernel
theorem dX8_whistle_164 : decode cX8_whistle 164 = .ok (.invokevirtual 69, 3) := by decide +kernel
theorem dX8_whistle_167 : decode cX8_whistle 167 = .ok (.aload_n 0, 1) := by decide +kernel
theorem dX8_whistle_168 : decode cX8_whistle 168 = .ok (.iconst 3, 1) := by decide +kernel
theorem dX8_whistle_169 : decode cX8_whistle 169 = .ok (.iconst 1, 1) := by decide +kernel
theorem dX8_whistle_170 : decode cX8_whistle 170 = .ok (.invokevirtual 15, 3) := by decide +kernel
theorem dX8_whistle_173 : decode cX8_whistle 173 = .ok (.return_, 1) := by decide +kernel
theorem dX8_breathsFor_0 : decode cX8_breathsFor 0 = .ok (.iconst 1, 1) := by decide +kernel
theorem dX8_breathsFor_1 : decode cX8_breathsFor 1 = .ok (.aload_n 0, 1) := by decide +kernel
theorem dX8_breathsFor_2 : decode cX8_breathsFor 2 = .ok (.getfield 97, 3) := by decide +kernel
theorem dX8_breathsFor_5 : decode cX8_breathsFor 5 = .ok (.iload_n 1, 1) := by decide +kernel
theorem dX8_breathsFor_6 : decode cX8_breathsFor 6 = .ok (.iconst 0, 1) := by decide +kernel
theorem dX8_breathsFor_7 : decode cX8_breathsFor 7 = .ok (.invokevirtual 42, 3) := by decide +kernel
theorem dX8_breathsFor_10 : decode cX8_breathsFor 10 = .ok (.invokestatic 119, 3) := by decide +kernel
theorem dX8_breathsFor_13 : decode cX8_breathsFor 13 = .ok (.istore_n 3, 1) := by decide +kernel
theorem dX8_breathsFor_14 : decode cX8_breathsFor 14 = .ok (.aload_n 0, 1) := by decide +kernel
theorem dX8_breathsFor_15 : decode cX8_breathsFor 15 = .ok (.getfield 38, 3) := by decide +kernel
theorem dX8_breathsFor_18 : decode cX8_breathsFor 18 = .ok (.iload_n 2, 1) := by decide +kernel
theorem dX8_breathsFor_19 : decode cX8_breathsFor 19 = .ok (.iconst 2, 1) := by decide +kernel
theorem dX8_breathsFor_20 : decode cX8_breathsFor 20 = .ok (.invokevirtual 42, 3) := by decide +kernel
theorem dX8_breathsFor_23 : decode cX8_breathsFor 23 = .ok (.iload_n 3, 1) := by decide +kernel
theorem dX8_breathsFor_24 : decode cX8_breathsFor 24 = .ok (.iadd, 1) := by decide +kernel
theorem dX8_breathsFor_25 : decode cX8_breathsFor 25 = .ok (.iconst 1, 1) := by decide +kernel
theorem dX8_breathsFor_26 : decode cX8_breathsFor 26 = .ok (.isub, 1) := by decide +kernel
theorem dX8_breathsFor_27 : decode cX8_breathsFor 27 = .ok (.iload_n 3, 1) := by decide +kernel
theorem dX8_breathsFor_28 : decode cX8_breathsFor 28 = .ok (.idiv, 1) := by decide +kernel
theorem dX8_breathsFor_29 : decode cX8_breathsFor 29 = .ok (.ireturn, 1) := by decide +kernel
theorem dX8_loseAll_0 : decode cX8_loseAll 0 = .ok (.iconst 0, 1) := by decide +kernel
theorem dX8_loseAll_1 : decode cX8_loseAll 1 = .ok (.istore_n 1, 1) := by decide +kernel
theorem dX8_loseAll_2 : decode cX8_loseAll 2 = .ok (.iload_n 1, 1) := by decide +kernel
theorem dX8_loseAll_3 : decode cX8_loseAll 3 = .ok (.aload_n 0, 1) := by decide +kernel
theorem dX8_loseAll_4 : decode cX8_loseAll 4 = .ok (.getfield 35, 3) := by decide +kernel
theorem dX8_loseAll_7 : decode cX8_loseAll 7 = .ok (.if_icmp .ge 47, 3) := by decide +kernel
theorem dX8_loseAll_10 : decode cX8_loseAll 10 = .ok (.aload_n 0, 1) := by decide +kernel
theorem dX8_loseAll_11 : decode cX8_loseAll 11 = .ok (.getfield 38, 3) := by decide +kernel
theorem dX8_loseAll_14 : decode cX8_loseAll 14 = .ok (.iload_n 1, 1) := by decide +kernel
theorem dX8_loseAll_15 : decode cX8_loseAll 15 = .ok (.iconst 3, 1) := by decide +kernel
theorem dX8_loseAll_16 : decode cX8_loseAll 16 = .ok (.invokevirtual 42, 3) := by decide +kernel
theorem dX8_loseAll_19 : decode cX8_loseAll 19 = .ok (.ifCond .ne 29, 3) := by decide +kernel
theorem dX8_loseAll_22 : decode cX8_loseAll 22 = .ok (.aload_n 0, 1) := by decide +kernel
theorem dX8_loseAll_23 : decode cX8_loseAll 23 = .ok (.iload_n 1, 1) := by decide +kernel
theorem dX8_loseAll_24 : decode cX8_loseAll 24 = .ok (.invokevirtual 103, 3) := by decide +kernel
theorem dX8_loseAll_27 : decode cX8_loseAll 27 = .ok (.iconst (-1), 1) := by decide +kernel
theorem dX8_loseAll_28 : decode cX8_loseAll 28 = .ok (.if_icmp .ne 20, 3) := by decide +kernel
theorem dX8_loseAll_31 : decode cX8_loseAll 31 = .ok (.aload_n 0, 1) := by decide +kernel
theorem dX8_loseAll_32 : decode cX8_loseAll 32 = .ok (.getfield 38, 3) := by decide +kernel
theorem dX8_loseAll_35 : decode cX8_loseAll 35 = .ok (.iload_n 1, 1) := by decide +kernel
theorem dX8_loseAll_36 : decode cX8_loseAll 36 = .ok (.iconst 3, 1) := by decide +kernel
theorem dX8_loseAll_37 : decode cX8_loseAll 37 = .ok (.iconst 3, 1) := by decide +kernel
theorem dX8_loseAll_38 : decode cX8_loseAll 38 = .ok (.invokevirtual 62, 3) := by decide +kernel
theorem dX8_loseAll_41 : decode cX8_loseAll 41 = .ok (.aload_n 0, 1) := by decide +kernel
theorem dX8_loseAll_42 : decode cX8_loseAll 42 = .ok (.bipush 8, 2) := by decide +kernel
theorem dX8_loseAll_44 : decode cX8_loseAll 44 = .ok (.iconst 1, 1) := by decide +kernel
theorem dX8_loseAll_45 : decode cX8_loseAll 45 = .ok (.invokevirtual 15, 3) := by decide +kernel
theorem dX8_loseAll_48 : decode cX8_loseAll 48 = .ok (.iinc 1 1, 3) := by decide +kernel
theorem dX8_loseAll_51 : decode cX8_loseAll 51 = .ok (.goto (-49), 3) := by decide +kernel
theorem dX8_loseAll_54 : decode cX8_loseAll 54 = .ok (.return_, 1) := by decide +kernel
theorem dX9_init_0 : decode cX9_init 0 = .ok (.aload_n 0, 1) := by decide +kernel
theorem dX9_init_1 : decode cX9_init 1 = .ok (.invokespecial 3, 3) := by decide +kernel
theorem dX9_init_4 : decode cX9_init 4 = .ok (.aload_n 0, 1) := by decide +kernel
theorem dX9_init_5 : decode cX9_init 5 = .ok (.aload_n 1, 1) := by decide +kernel
theorem dX9_init_6 : decode cX9_init 6 = .ok (.putfield 9, 3) := by decide +kernel
theorem dX9_init_9 : decode cX9_init 9 = .ok (.aload_n 0, 1) := by decide +kernel
theorem dX9_init_10 : decode cX9_init 10 = .ok (.iconst 0, 1) := by decide +kernel
theorem dX9_init_11 : decode cX9_init 11 = .ok (.putfield 15, 3) := by decide +kernel
theorem dX9_init_14 : decode cX9_init 14 = .ok (.aload_n 0, 1) := by decide +kernel
theorem dX9_init_15 : decode cX9_init 15 = .ok (.iconst (-1), 1) := by decide +kernel
theorem dX9_init_16 : decode cX9_init 16 = .ok (.putfield 19, 3) := by decide +kernel
theorem dX9_init_19 : decode cX9_init 19 = .ok (.return_, 1) := by decide +kernel
theorem dX9_open_0 : decode cX9_open 0 = .ok (.aload_n 0, 1) := by decide +kernel
theorem dX9_open_1 : decode cX9_open 1 = .ok (.iconst 0, 1) := by decide +kernel
theorem dX9_open_2 : decode cX9_open 2 = .ok (.putfield 15, 3) := by decide +kernel
theorem dX9_open_5 : decode cX9_open 5 = .ok (.aload_n 0, 1) := by decide +kernel
theorem dX9_open_6 : decode cX9_open 6 = .ok (.iconst (-1), 1) := by decide +kernel
theorem dX9_open_7 : decode cX9_open 7 = .ok (.putfield 19, 3) := by decide +kernel
theorem dX9_open_10 : decode cX9_open 10 = .ok (.aload_n 0, 1) := by decide +kernel
theorem dX9_open_11 : decode cX9_open 11 = .ok (.iconst 0, 1) := by decide +kernel
theorem dX9_open_12 : decode cX9_open 12 = .ok (.putfield 22, 3) := by decide +kernel
theorem dX9_open_15 : decode cX9_open 15 = .ok (.aload_n 0, 1) := by decide +kernel
theorem dX9_open_16 : decode cX9_open 16 = .ok (.invokevirtual 25, 3) := by decide +kernel
theorem dX9_open_19 : decode cX9_open 19 = .ok (.return_, 1) := by decide +kernel
theorem dX9_fail_0 : decode cX9_fail 0 = .ok (.aload_n 0, 1) := by decide +kernel
theorem dX9_fail_1 : decode cX9_fail 1 = .ok (.iload_n 1, 1) := by decide +kernel
theorem dX9_fail_2 : decode cX9_fail 2 = .ok (.putfield 15, 3) := by decide +kernel
theorem dX9_fail_5 : decode cX9_fail 5 = .ok (.aload_n 0, 1) := by decide +kernel
theorem dX9_fail_6 : decode cX9_fail 6 = .ok (.aload_n 0, 1) := by decide +kernel
theorem dX9_fail_7 : decode cX9_fail 7 = .ok (.getfield 28, 3) := by decide +kernel
theorem dX9_fail_10 : decode cX9_fail 10 = .ok (.putfield 19, 3) := by decide +kernel
theorem dX9_fail_13 : decode cX9_fail 13 = .ok (.iconst 0, 1) := by decide +kernel
theorem dX9_fail_14 : decode cX9_fail 14 = .ok (.ireturn, 1) := by decide +kernel
theorem dX9_kindOf_0 : decode cX9_kindOf 0 = .ok (.iload_n 0, 1) := by decide +kernel
theorem dX9_kindOf_1 : decode cX9_kindOf 1 = .ok (.bipush 97, 2) := by decide +kernel
theorem dX9_kindOf_3 : decode cX9_kindOf 3 = .ok (.if_icmp .lt 11, 3) := by decide +kernel
theorem dX9_kindOf_6 : decode cX9_kindOf 6 = .ok (.iload_n 0, 1) := by decide +kernel
theorem dX9_kindOf_7 : decode cX9_kindOf 7 = .ok (.bipush 122, 2) := by decide +kernel
theorem dX9_kindOf_9 : decode cX9_kindOf 9 = .ok (.if_icmp .gt 5, 3) := by decide +kernel
theorem dX9_kindOf_12 : decode cX9_kindOf 12 = .ok (.iconst 1, 1) := by decide +kernel
theorem dX9_kindOf_13 : decode cX9_kindOf 13 = .ok (.ireturn, 1) := by decide +kernel
theorem dX9_kindOf_14 : decode cX9_kindOf 14 = .ok (.iload_n 0, 1) := by decide +kernel
theorem dX9_kindOf_15 : decode cX9_kindOf 15 = .ok (.bipush 48, 2) := by decide +kernel
theorem dX9_kindOf_17 : decode cX9_kindOf 17 = .ok (.if_icmp .lt 11, 3) := by decide +kernel
theorem dX9_kindOf_20 : decode cX9_kindOf 20 = .ok (.iload_n 0, 1) := by decide +kernel
theorem dX9_kindOf_21 : decode cX9_kindOf 21 = .ok (.bipush 57, 2) := by decide +kernel
theorem dX9_kindOf_23 : decode cX9_kindOf 23 = .ok (.if_icmp .gt 5, 3) := by decide +kernel
theorem dX9_kindOf_26 : decode cX9_kindOf 26 = .ok (.iconst 2, 1) := by decide +kernel
theorem dX9_kindOf_27 : decode cX9_kindOf 27 = .ok (.ireturn, 1) := by decide +kernel
theorem dX9_kindOf_28 : decode cX9_kindOf 28 = .ok (.iload_n 0, 1) := by decide +kernel
theorem dX9_kindOf_29 : decode cX9_kindOf 29 = .ok (.lookupswitch 49 #[(-1, 47), (10, 45), (32, 45), (59, 43)], 43) := by decide +kernel
theorem dX9_kindOf_72 : decode cX9_kindOf 72 = .ok (.iconst 3, 1) := by decide +kernel
theorem dX9_kindOf_73 : decode cX9_kindOf 73 = .ok (.ireturn, 1) := by decide +kernel
theorem dX9_kindOf_74 : decode cX9_kindOf 74 = .ok (.iconst 5, 1) := by decide +kernel
theorem dX9_kindOf_75 : decode cX9_kindOf 75 = .ok (.ireturn, 1) := by decide +kernel
theorem dX9_kindOf_76 : decode cX9_kindOf 76 = .ok (.iconst 0, 1) := by decide +kernel
theorem dX9_kindOf_77 : decode cX9_kindOf 77 = .ok (.ireturn, 1) := by decide +kernel
theorem dX9_kindOf_78 : decode cX9_kindOf 78 = .ok (.iconst 4, 1) := by decide +kernel
theorem dX9_kindOf_79 : decode cX9_kindOf 79 = .ok (.ireturn, 1) := by decide +kernel
theorem dX9_step_0 : decode cX9_step 0 = .ok (.aload_n 0, 1) := by decide +kernel
theorem dX9_step_1 : decode cX9_step 1 = .ok (.aload_n 0, 1) := by decide +kernel
theorem dX9_step_2 : decode cX9_step 2 = .ok (.getfield 22, 3) := by decide +kernel
theorem dX9_step_5 : decode cX9_step 5 = .ok (.putfield 28, 3) := by decide +kernel
theorem dX9_step_8 : decode cX9_step 8 = .ok (.aload_n 0, 1) := by decide +kernel
theorem dX9_step_9 : decode cX9_step 9 = .ok (.getfield 28, 3) := by decide +kernel
theorem dX9_step_12 : decode cX9_step 12 = .ok (.aload_n 0, 1) := by decide +kernel
theorem dX9_step_13 : decode cX9_step 13 = .ok (.getfield 9, 3) := by decide +kernel
theorem dX9_step_16 : decode cX9_step 16 = .ok (.invokevirtual 31, 3) := by decide +kernel
theorem dX9_step_19 : decode cX9_step 19 = .ok (.if_icmp .ge 34, 3) := by decide +kernel
theorem dX9_step_22 : decode cX9_step 22 = .ok (.aload_n 0, 1) := by decide +kernel
theorem dX9_step_23 : decode cX9_step 23 = .ok (.getfield 9, 3) := by decide +kernel
theorem dX9_step_26 : decode cX9_step 26 = .ok (.aload_n 0, 1) := by decide +kernel
theorem dX9_step_27 : decode cX9_step 27 = .ok (.getfield 28, 3) := by decide +kernel
theorem dX9_step_30 : decode cX9_step 30 = .ok (.invokevirtual 37, 3) := by decide +kernel
theorem dX9_step_33 : decode cX9_step 33 = .ok (.invokestatic 41, 3) := by decide +kernel
theorem dX9_step_36 : decode cX9_step 36 = .ok (.iconst 5, 1) := by decide +kernel
theorem dX9_step_37 : decode cX9_step 37 = .ok (.if_icmp .ne 16, 3) := by decide +kernel
theorem dX9_step_40 : decode cX9_step 40 = .ok (.aload_n 0, 1) := by decide +kernel
theorem dX9_step_41 : decode cX9_step 41 = .ok (.dup, 1) := by decide +kernel
theorem dX9_step_42 : decode cX9_step 42 = .ok (.getfield 28, 3) := by decide +kernel
theorem dX9_step_45 : decode cX9_step 45 = .ok (.iconst 1, 1) := by decide +kernel
theorem dX9_step_46 : decode cX9_step 46 = .ok (.iadd, 1) := by decide +kernel
theorem dX9_step_47 : decode cX9_step 47 = .ok (.putfield 28, 3) := by decide +kernel
theorem dX9_step_50 : decode cX9_step 50 = .ok (.goto (-42), 3) := by decide +kernel
theorem dX9_step_53 : decode cX9_step 53 = .ok (.aload_n 0, 1) := by decide +kernel
theorem dX9_step_54 : decode cX9_step 54 = .ok (.aload_n 0, 1) := by decide +kernel
theorem dX9_step_55 : decode cX9_step 55 = .ok (.getfield 9, 3) := by decide +kernel
theorem dX9_step_58 : decode cX9_step 58 = .ok (.aload_n 0, 1) := by decide +kernel
theorem dX9_step_59 : decode cX9_step 59 = .ok (.getfield 28, 3) := by decide +kernel
theorem dX9_step_62 : decode cX9_step 62 = .ok (.invokevirtual 37, 3) := by decide +kernel
theorem dX9_step_65 : decode cX9_step 65 = .ok (.invokestatic 41, 3) := by decide +kernel
theorem dX9_step_68 : decode cX9_step 68 = .ok (.putfield 44, 3) := by decide +kernel
theorem dX9_step_71 : decode cX9_step 71 = .ok (.aload_n 0, 1) := by decide +kernel
theorem dX9_step_72 : decode cX9_step 72 = .ok (.aload_n 0, 1) := by decide +kernel
theorem dX9_step_73 : decode cX9_step 73 = .ok (.getfield 44, 3) := by decide +kernel
theorem dX9_step_76 : decode cX9_step 76 = .ok (.ifCond .ne 10, 3) := by decide +kernel
theorem dX9_step_79 : decode cX9_step 79 = .ok (.aload_n 0, 1) := by decide +kernel
theorem dX9_step_80 : decode cX9_step 80 = .ok (.getfield 28, 3) := by decide +kernel
theorem dX9_step_83 : decode cX9_step 83 = .ok (.goto 9, 3) := by decide +kernel
theorem dX9_step_86 : decode cX9_step 86 = .ok (.aload_n 0, 1) := by decide +kernel
theorem dX9_step_87 : decode cX9_step 87 = .ok (.getfield 28, 3) := by decide +kernel
theorem dX9_step_90 : decode cX9_step 90 = .ok (.iconst 1, 1) := by decide +kernel
theorem dX9_step_91 : decode cX9_step 91 = .ok (.iadd, 1) := by decide +kernel
theorem dX9_step_92 : decode cX9_step 92 = .ok (.putfield 22, 3) := by decide +kernel
theorem dX9_step_95 : decode cX9_step 95 = .ok (.aload_n 0, 1) := by decide +kernel
theorem dX9_step_96 : decode cX9_step 96 = .ok (.getfield 44, 3) := by decide +kernel
theorem dX9_step_99 : decode cX9_step 99 = .ok (.iconst 1, 1) := by decide +kernel
theorem dX9_step_100 : decode cX9_step 100 = .ok (.if_icmp .eq 11, 3) := by decide +kernel
theorem dX9_step_103 : decode cX9_step 103 = .ok (.aload_n 0, 1) := by decide +kernel
theorem dX9_step_104 : decode cX9_step 104 = .ok (.getfield 44, 3) := by decide +kernel
theorem dX9_step_107 : decode cX9_step 107 = .ok (.iconst 2, 1) := by decide +kernel
theorem dX9_step_108 : decode cX9_step 108 = .ok (.if_icmp .ne 7, 3) := by decide +kernel
theorem dX9_step_111 : decode cX9_step 111 = .ok (.iconst 1, 1) := by decide +kernel
theorem dX9_step_112 : decode cX9_step 112 = .ok (.goto 4, 3) := by decide +kernel
theorem dX9_step_115 : decode cX9_step 115 = .ok (.iconst 0, 1) := by decide +kernel
theorem dX9_step_116 : decode cX9_step 116 = .ok (.istore_n 1, 1) := by decide +kernel
theorem dX9_step_117 : decode cX9_step 117 = .ok (.iload_n 1, 1) := by decide +kernel
theorem dX9_step_118 : decode cX9_step 118 = .ok (.ifCond .eq 51, 3) := by decide +kernel
theorem dX9_step_121 : decode cX9_step 121 = .ok (.aload_n 0, 1) := by decide +kernel
theorem dX9_step_122 : decode cX9_step 122 = .ok (.getfield 22, 3) := by decide +kernel
theorem dX9_step_125 : decode cX9_step 125 = .ok (.aload_n 0, 1) := by decide +kernel
theorem dX9_step_126 : decode cX9_step 126 = .ok (.getfield 9, 3) := by decide +kernel
theorem dX9_step_129 : decode cX9_step 129 = .ok (.invokevirtual 31, 3) := by decide +kernel
theorem dX9_step_132 : decode cX9_step 132 = .ok (.if_icmp .ge 37, 3) := by decide +kernel
theorem dX9_step_135 : decode cX9_step 135 = .ok (.aload_n 0, 1) := by decide +kernel
theorem dX9_step_136 : decode cX9_step 136 = .ok (.getfield 9, 3) := by decide +kernel
theorem dX9_step_139 : decode cX9_step 139 = .ok (.aload_n 0, 1) := by decide +kernel
theorem dX9_step_140 : decode cX9_step 140 = .ok (.getfield 22, 3) := by decide +kernel
theorem dX9_step_143 : decode cX9_step 143 = .ok (.invokevirtual 37, 3) := by decide +kernel
theorem dX9_step_146 : decode cX9_step 146 = .ok (.invokestatic 41, 3) := by decide +kernel
theorem dX9_step_149 : decode cX9_step 149 = .ok (.aload_n 0, 1) := by decide +kernel
theorem dX9_step_150 : decode cX9_step 150 = .ok (.getfield 44, 3) := by decide +kernel
theorem dX9_step_153 : decode cX9_step 153 = .ok (.if_icmp .ne 16, 3) := by decide +kernel
theorem dX9_step_156 : decode cX9_step 156 = .ok (.aload_n 0, 1) := by decide +kernel
theorem dX9_step_157 : decode cX9_step 157 = .ok (.dup, 1) := by decide +kernel
theorem dX9_step_158 : decode cX9_step 158 = .ok (.getfield 22, 3) := by decide +kernel
theorem dX9_step_161 : decode cX9_step 161 = .ok (.iconst 1, 1) := by decide +kernel
theorem dX9_step_162 : decode cX9_step 162 = .ok (.iadd, 1) := by decide +kernel
theorem dX9_step_163 : decode cX9_step 163 = .ok (.putfield 22, 3) := by decide +kernel
theorem dX9_step_166 : decode cX9_step 166 = .ok (.goto (-49), 3) := by decide +kernel
theorem dX9_step_169 : decode cX9_step 169 = .ok (.iload_n 1, 1) := by decide +kernel
theorem dX9_step_170 : decode cX9_step 170 = .ok (.ifCond .eq 34, 3) := by decide +kernel
theorem dX9_step_173 : decode cX9_step 173 = .ok (.aload_n 0, 1) := by decide +kernel
theorem dX9_step_174 : decode cX9_step 174 = .ok (.getfield 22, 3) := by decide +kernel
theorem dX9_step_177 : decode cX9_step 177 = .ok (.aload_n 0, 1) := by decide +kernel
theorem dX9_step_178 : decode cX9_step 178 = .ok (.getfield 28, 3) := by decide +kernel
theorem dX9_step_181 : decode cX9_step 181 = .ok (.isub, 1) := by decide +kernel
theorem dX9_step_182 : decode cX9_step 182 = .ok (.aload_n 0, 1) := by decide +kernel
theorem dX9_step_183 : decode cX9_step 183 = .ok (.getfield 44, 3) := by decide +kernel
theorem dX9_step_186 : decode cX9_step 186 = .ok (.iconst 1, 1) := by decide +kernel
theorem dX9_step_187 : decode cX9_step 187 = .ok (.if_icmp .ne 8, 3) := by decide +kernel
theorem dX9_step_190 : decode cX9_step 190 = .ok (.bipush 8, 2) := by decide +kernel
theorem dX9_step_192 : decode cX9_step 192 = .ok (.goto 4, 3) := by decide +kernel
theorem dX9_step_195 : decode cX9_step 195 = .ok (.iconst 3, 1) := by decide +kernel
theorem dX9_step_196 : decode cX9_step 196 = .ok (.if_icmp .le 8, 3) := by decide +kernel
theorem dX9_step_199 : decode cX9_step 199 = .ok (.aload_n 0, 1) := by decide +kernel
theorem dX9_step_200 : decode cX9_step 200 = .ok (.iconst 4, 1) := by decide +kernel
theorem dX9_step_201 : decode cX9_step 201 = .ok (.putfield 44, 3) := by decide +kernel
theorem dX9_step_204 : decode cX9_step 204 = .ok (.aload_n 0, 1) := by decide +kernel
theorem dX9_step_205 : decode cX9_step 205 = .ok (.iconst 0, 1) := by decide +kernel
theorem dX9_step_206 : decode cX9_step 206 = .ok (.putfield 47, 3) := by decide +kernel
theorem dX9_step_209 : decode cX9_step 209 = .ok (.aload_n 0, 1) := by decide +kernel
theorem dX9_step_210 : decode cX9_step 210 = .ok (.getfield 28, 3) := by decide +kernel
theorem dX9_step_213 : decode cX9_step 213 = .ok (.istore_n 2, 1) := by decide +kernel
theorem dX9_step_214 : decode cX9_step 214 = .ok (.iload_n 2, 1) := by decide +kernel
theorem dX9_step_215 : decode cX9_step 215 = .ok (.aload_n 0, 1) := by decide +kernel
theorem dX9_step_216 : decode cX9_step 216 = .ok (.getfield 22, 3) := by decide +kernel
theorem dX9_step_219 : decode cX9_step 219 = .ok (.if_icmp .ge 40, 3) := by decide +kernel
theorem dX9_step_222 : decode cX9_step 222 = .ok (.aload_n 0, 1) := by decide +kernel
theorem dX9_step_223 : decode cX9_step 223 = .ok (.getfield 44, 3) := by decide +kernel
theorem dX9_step_226 : decode cX9_step 226 = .ok (.iconst 2, 1) := by decide +kernel
theorem dX9_step_227 : decode cX9_step 227 = .ok (.if_icmp .ne 32, 3) := by decide +kernel
theorem dX9_step_230 : decode cX9_step 230 = .ok (.aload_n 0, 1) := by decide +kernel
theorem dX9_step_231 : decode cX9_step 231 = .ok (.aload_n 0, 1) := by decide +kernel
theorem dX9_step_232 : decode cX9_step 232 = .ok (.getfield 47, 3) := by decide +kernel
theorem dX9_step_235 : decode cX9_step 235 = .ok (.bipush 10, 2) := by decide +kernel
theorem dX9_step_237 : decode cX9_step 237 = .ok (.imul, 1) := by decide +kernel
theorem dX9_step_238 : decode cX9_step 238 = .ok (.aload_n 0, 1) := by decide +kernel
theorem dX9_step_239 : decode cX9_step 239 = .ok (.getfield 9, 3) := by decide +kernel
theorem dX9_step_242 : decode cX9_step 242 = .ok (.iload_n 2, 1) := by decide +kernel
theorem dX9_step_243 : decode cX9_step 243 = .ok (.invokevirtual 37, 3) := by decide +kernel
theorem dX9_step_246 : decode cX9_step 246 = .ok (.iadd, 1) := by decide +kernel
theorem dX9_step_247 : decode cX9_step 247 = .ok (.bipush 48, 2) := by decide +kernel
theorem dX9_step_249 : decode cX9_step 249 = .ok (.isub, 1) := by decide +kernel
theorem dX9_step_250 : decode cX9_step 250 = .ok (.putfield 47, 3) := by decide +kernel
theorem dX9_step_253 : decode cX9_step 253 = .ok (.iinc 2 1, 3) := by decide +kernel
theorem dX9_step_256 : decode cX9_step 256 = .ok (.goto (-42), 3) := by decide +kernel
theorem dX9_step_259 : decode cX9_step 259 = .ok (.return_, 1) := by decide +kernel
theorem dX9_isWord_0 : decode cX9_isWord 0 = .ok (.aload_n 0, 1) := by decide +kernel
theorem dX9_isWord_1 : decode cX9_isWord 1 = .ok (.getfield 44, 3) := by decide +kernel
theorem dX9_isWord_4 : decode cX9_isWord 4 = .ok (.iconst 1, 1) := by decide +kernel
theorem dX9_isWord_5 : decode cX9_isWord 5 = .ok (.if_icmp .ne 19, 3) := by decide +kernel
theorem dX9_isWord_8 : decode cX9_isWord 8 = .ok (.aload_n 0, 1) := by decide +kernel
theorem dX9_isWord_9 : decode cX9_isWord 9 = .ok (.getfield 22, 3) := by decide +kernel
theorem dX9_isWord_12 : decode cX9_isWord 12 = .ok (.aload_n 0, 1) := by decide +kernel
theorem dX9_isWord_13 : decode cX9_isWord 13 = .ok (.getfield 28, 3) := by decide +kernel
theorem dX9_isWord_16 : decode cX9_isWord 16 = .ok (.isub, 1) := by decide +kernel
theorem dX9_isWord_17 : decode cX9_isWord 17 = .ok (.aload_n 1, 1) := by decide +kernel
theorem dX9_isWord_18 : decode cX9_isWord 18 = .ok (.invokevirtual 50, 3) := by decide +kernel
theorem dX9_isWord_21 : decode cX9_isWord 21 = .ok (.if_icmp .eq 5, 3) := by decide +kernel
theorem dX9_isWord_24 : decode cX9_isWord 24 = .ok (.iconst 0, 1) := by decide +kernel
theorem dX9_isWord_25 : decode cX9_isWord 25 = .ok (.ireturn, 1) := by decide +kernel
theorem dX9_isWord_26 : decode cX9_isWord 26 = .ok (.iconst 0, 1) := by decide +kernel
theorem dX9_isWord_27 : decode cX9_isWord 27 = .ok (.istore_n 2, 1) := by decide +kernel
theorem dX9_isWord_28 : decode cX9_isWord 28 = .ok (.iload_n 2, 1) := by decide +kernel
theorem dX9_isWord_29 : decode cX9_isWord 29 = .ok (.aload_n 1, 1) := by decide +kernel
theorem dX9_isWord_30 : decode cX9_isWord 30 = .ok (.invokevirtual 50, 3) := by decide +kernel
theorem dX9_isWord_33 : decode cX9_isWord 33 = .ok (.if_icmp .ge 32, 3) := by decide +kernel
theorem dX9_isWord_36 : decode cX9_isWord 36 = .ok (.aload_n 0, 1) := by decide +kernel
theorem dX9_isWord_37 : decode cX9_isWord 37 = .ok (.getfield 9, 3) := by decide +kernel
theorem dX9_isWord_40 : decode cX9_isWord 40 = .ok (.aload_n 0, 1) := by decide +kernel
theorem dX9_isWord_41 : decode cX9_isWord 41 = .ok (.getfield 28, 3) := by decide +kernel
theorem dX9_isWord_44 : decode cX9_isWord 44 = .ok (.iload_n 2, 1) := by decide +kernel
theorem dX9_isWord_45 : decode cX9_isWord 45 = .ok (.iadd, 1) := by decide +kernel
theorem dX9_isWord_46 : decode cX9_isWord 46 = .ok (.invokevirtual 37, 3) := by decide +kernel
theorem dX9_isWord_49 : decode cX9_isWord 49 = .ok (.aload_n 1, 1) := by decide +kernel
theorem dX9_isWord_50 : decode cX9_isWord 50 = .ok (.iload_n 2, 1) := by decide +kernel
theorem dX9_isWord_51 : decode cX9_isWord 51 = .ok (.invokevirtual 55, 3) := by decide +kernel
theorem dX9_isWord_54 : decode cX9_isWord 54 = .ok (.if_icmp .eq 5, 3) := by decide +kernel
theorem dX9_isWord_57 : decode cX9_isWord 57 = .ok (.iconst 0, 1) := by decide +kernel
theorem dX9_isWord_58 : decode cX9_isWord 58 = .ok (.ireturn, 1) := by decide +kernel
theorem dX9_isWord_59 : decode cX9_isWord 59 = .ok (.iinc 2 1, 3) := by decide +kernel
theorem dX9_isWord_62 : decode cX9_isWord 62 = .ok (.goto (-34), 3) := by decide +kernel
theorem dX9_isWord_65 : decode cX9_isWord 65 = .ok (.iconst 1, 1) := by decide +kernel
theorem dX9_isWord_66 : decode cX9_isWord 66 = .ok (.ireturn, 1) := by decide +kernel
theorem dX9_settingWord_0 : decode cX9_settingWord 0 = .ok (.aload_n 0, 1) := by decide +kernel
theorem dX9_settingWord_1 : decode cX9_settingWord 1 = .ok (.ldc 59, 2) := by decide +kernel
theorem dX9_settingWord_3 : decode cX9_settingWord 3 = .ok (.invokevirtual 61, 3) := by decide +kernel
theorem dX9_settingWord_6 : decode cX9_settingWord 6 = .ok (.ifCond .eq 6, 3) := by decide +kernel
theorem dX9_settingWord_9 : decode cX9_settingWord 9 = .ok (.bipush 8, 2) := by decide +kernel
theorem dX9_settingWord_11 : decode cX9_settingWord 11 = .ok (.ireturn, 1) := by decide +kernel
theorem dX9_settingWord_12 : decode cX9_settingWord 12 = .ok (.aload_n 0, 1) := by decide +kernel
theorem dX9_settingWord_13 : decode cX9_settingWord 13 = .ok (.ldc 65, 2) := by decide +kernel
theorem dX9_settingWord_15 : decode cX9_settingWord 15 = .ok (.invokevirtual 61, 3) := by decide +kernel
theorem dX9_settingWord_18 : decode cX9_settingWord 18 = .ok (.ifCond .eq 6, 3) := by decide +kernel
theorem dX9_settingWord_21 : decode cX9_settingWord 21 = .ok (.bipush 9, 2) := by decide +kernel
theorem dX9_settingWord_23 : decode cX9_settingWord 23 = .ok (.ireturn, 1) := by decide +kernel
theorem dX9_settingWord_24 : decode cX9_settingWord 24 = .ok (.aload_n 0, 1) := by decide +kernel
theorem dX9_settingWord_25 : decode cX9_settingWord 25 = .ok (.ldc 67, 2) := by decide +kernel
theorem dX9_settingWord_27 : decode cX9_settingWord 27 = .ok (.invokevirtual 61, 3) := by decide +kernel
theorem dX9_settingWord_30 : decode cX9_settingWord 30 = .ok (.ifCond .eq 8, 3) := by decide +kernel
theorem dX9_settingWord_33 : decode cX9_settingWord 33 = .ok (.bipush 10, 2) := by decide +kernel
theorem dX9_settingWord_35 : decode cX9_settingWord 35 = .ok (.goto 4, 3) := by decide +kernel
theorem dX9_settingWord_38 : decode cX9_settingWord 38 = .ok (.iconst (-1), 1) := by decide +kernel
theorem dX9_settingWord_39 : decode cX9_settingWord 39 = .ok (.ireturn, 1) := by decide +kernel
theorem dX9_nameHere_0 : decode cX9_nameHere 0 = .ok (.aload_n 0, 1) := by decide +kernel
theorem dX9_nameHere_1 : decode cX9_nameHere 1 = .ok (.getfield 44, 3) := by decide +kernel
theorem dX9_nameHere_4 : decode cX9_nameHere 4 = .ok (.iconst 1, 1) := by decide +kernel
theorem dX9_nameHere_5 : decode cX9_nameHere 5 = .ok (.if_icmp .ne 17, 3) := by decide +kernel
theorem dX9_nameHere_8 : decode cX9_nameHere 8 = .ok (.aload_n 0, 1) := by decide +kernel
theorem dX9_nameHere_9 : decode cX9_nameHere 9 = .ok (.getfield 22, 3) := by decide +kernel
theorem dX9_nameHere_12 : decode cX9_nameHere 12 = .ok (.aload_n 0, 1) := by decide +kernel
theorem dX9_nameHere_13 : decode cX9_nameHere 13 = .ok (.getfield 28, 3) := by decide +kernel
theorem dX9_nameHere_16 : decode cX9_nameHere 16 = .ok (.isub, 1) := by decide +kernel
theorem dX9_nameHere_17 : decode cX9_nameHere 17 = .ok (.bipush 6, 2) := by decide +kernel
theorem dX9_nameHere_19 : decode cX9_nameHere 19 = .ok (.if_icmp .le 11, 3) := by decide +kernel
theorem dX9_nameHere_22 : decode cX9_nameHere 22 = .ok (.aload_n 0, 1) := by decide +kernel
theorem dX9_nameHere_23 : decode cX9_nameHere 23 = .ok (.iconst 1, 1) := by decide +kernel
theorem dX9_nameHere_24 : decode cX9_nameHere 24 = .ok (.invokevirtual 69, 3) := by decide +kernel
theorem dX9_nameHere_27 : decode cX9_nameHere 27 = .ok (.pop, 1) := by decide +kernel
theorem dX9_nameHere_28 : decode cX9_nameHere 28 = .ok (.iconst (-1), 1) := by decide +kernel
theorem dX9_nameHere_29 : decode cX9_nameHere 29 = .ok (.ireturn, 1) := by decide +kernel
theorem dX9_nameHere_30 : decode cX9_nameHere 30 = .ok (.iconst 0, 1) := by decide +kernel
theorem dX9_nameHere_31 : decode cX9_nameHere 31 = .ok (.istore_n 1, 1) := by decide +kernel
theorem dX9_nameHere_32 : decode cX9_nameHere 32 = .ok (.aload_n 0, 1) := by decide +kernel
theorem dX9_nameHere_33 : decode cX9_nameHere 33 = .ok (.getfield 22, 3) := by decide +kernel
theorem dX9_nameHere_36 : decode cX9_nameHere 36 = .ok (.iconst 1, 1) := by decide +kernel
theorem dX9_nameHere_37 : decode cX9_nameHere 37 = .ok (.isub, 1) := by decide +kernel
theorem dX9_nameHere_38 : decode cX9_nameHere 38 = .ok (.istore_n 2, 1) := by decide +kernel
theorem dX9_nameHere_39 : decode cX9_nameHere 39 = .ok (.iload_n 2, 1) := by decide +kernel
theorem dX9_nameHere_40 : decode cX9_nameHere 40 = .ok (.aload_n 0, 1) := by decide +kernel
theorem dX9_nameHere_41 : decode cX9_nameHere 41 = .ok (.getfield 28, 3) := by decide +kernel
theorem dX9_nameHere_44 : decode cX9_nameHere 44 = .ok (.if_icmp .lt 27, 3) := by decide +kernel
theorem dX9_nameHere_47 : decode cX9_nameHere 47 = .ok (.iload_n 1, 1) := by decide +kernel
theorem dX9_nameHere_48 : decode cX9_nameHere 48 = .ok (.iconst 5, 1) := by decide +kernel
theorem dX9_nameHere_49 : decode cX9_nameHere 49 = .ok (.ishl, 1) := by decide +kernel
theorem dX9_nameHere_50 : decode cX9_nameHere 50 = .ok (.aload_n 0, 1) := by decide +kernel
theorem dX9_nameHere_51 : decode cX9_nameHere 51 = .ok (.getfield 9, 3) := by decide +kernel
theorem dX9_nameHere_54 : decode cX9_nameHere 54 = .ok (.iload_n 2, 1) := by decide +kernel
theorem dX9_nameHere_55 : decode cX9_nameHere 55 = .ok (.invokevirtual 37, 3) := by decide +kernel
theorem dX9_nameHere_58 : decode cX9_nameHere 58 = .ok (.bipush 97, 2) := by decide +kernel
theorem dX9_nameHere_60 : decode cX9_nameHere 60 = .ok (.isub, 1) := by decide +kernel
theorem dX9_nameHere_61 : decode cX9_nameHere 61 = .ok (.iconst 1, 1) := by decide +kernel
theorem dX9_nameHere_62 : decode cX9_nameHere 62 = .ok (.iadd, 1) := by decide +kernel
theorem dX9_nameHere_63 : decode cX9_nameHere 63 = .ok (.ior, 1) := by decide +kernel
theorem dX9_nameHere_64 : decode cX9_nameHere 64 = .ok (.istore_n 1, 1) := by decide +kernel
theorem dX9_nameHere_65 : decode cX9_nameHere 65 = .ok (.iinc 2 (-1), 3) := by decide +kernel
theorem dX9_nameHere_68 : decode cX9_nameHere 68 = .ok (.goto (-29), 3) := by decide +kernel
theorem dX9_nameHere_71 : decode cX9_nameHere 71 = .ok (.iload_n 1, 1) := by decide +kernel
theorem dX9_nameHere_72 : decode cX9_nameHere 72 = .ok (.ireturn, 1) := by decide +kernel
theorem dX9_roofHere_0 : decode cX9_roofHere 0 = .ok (.aload_n 0, 1) := by decide +kernel
theorem dX9_roofHere_1 : decode cX9_roofHere 1 = .ok (.invokevirtual 73, 3) := by decide +kernel
theorem dX9_roofHere_4 : decode cX9_roofHere 4 = .ok (.istore_n 3, 1) := by decide +kernel
theorem dX9_roofHere_5 : decode cX9_roofHere 5 = .ok (.iload_n 3, 1) := by decide +kernel
theorem dX9_roofHere_6 : decode cX9_roofHere 6 = .ok (.iconst (-1), 1) := by decide +kernel
theorem dX9_roofHere_7 : decode cX9_roofHere 7 = .ok (.if_icmp .ne 5, 3) := by decide +kernel
theorem dX9_roofHere_10 : decode cX9_roofHere 10 = .ok (.iconst (-1), 1) := by decide +kernel
theorem dX9_roofHere_11 : decode cX9_roofHere 11 = .ok (.ireturn, 1) := by decide +kernel
theorem dX9_roofHere_12 : decode cX9_roofHere 12 = .ok (.aload_n 1, 1) := by decide +kernel
theorem dX9_roofHere_13 : decode cX9_roofHere 13 = .ok (.iload_n 3, 1) := by decide +kernel
theorem dX9_roofHere_14 : decode cX9_roofHere 14 = .ok (.invokevirtual 76, 3) := by decide +kernel
theorem dX9_roofHere_17 : decode cX9_roofHere 17 = .ok (.istore 4, 2) := by decide +kernel
theorem dX9_roofHere_19 : decode cX9_roofHere 19 = .ok (.iload 4, 2) := by decide +kernel
theorem dX9_roofHere_21 : decode cX9_roofHere 21 = .ok (.iconst (-1), 1) := by decide +kernel
theorem dX9_roofHere_22 : decode cX9_roofHere 22 = .ok (.if_icmp .eq 9, 3) := by decide +kernel
theorem dX9_roofHere_25 : decode cX9_roofHere 25 = .ok (.iload 4, 2) := by decide +kernel
theorem dX9_roofHere_27 : decode cX9_roofHere 27 = .ok (.iload_n 2, 1) := by decide +kernel
theorem dX9_roofHere_28 : decode cX9_roofHere 28 = .ok (.if_icmp .ne 11, 3) := by decide +kernel
theorem dX9_roofHere_31 : decode cX9_roofHere 31 = .ok (.aload_n 0, 1) := by decide +kernel
theorem dX9_roofHere_32 : decode cX9_roofHere 32 = .ok (.iconst 3, 1) := by decide +kernel
theorem dX9_roofHere_33 : decode cX9_roofHere 33 = .ok (.invokevirtual 69, 3) := by decide +kernel
theorem dX9_roofHere_36 : decode cX9_roofHere 36 = .ok (.pop, 1) := by decide +kernel
theorem dX9_roofHere_37 : decode cX9_roofHere 37 = .ok (.iconst (-1), 1) := by decide +kernel
theorem dX9_roofHere_38 : decode cX9_roofHere 38 = .ok (.ireturn, 1) := by decide +kernel
theorem dX9_roofHere_39 : decode cX9_roofHere 39 = .ok (.iload 4, 2) := by decide +kernel
theorem dX9_roofHere_41 : decode cX9_roofHere 41 = .ok (.ireturn, 1) := by decide +kernel
theorem dX9_isNumberHere_0 : decode cX9_isNumberHere 0 = .ok (.aload_n 0, 1) := by decide +kernel
theorem dX9_isNumberHere_1 : decode cX9_isNumberHere 1 = .ok (.getfield 44, 3) := by decide +kernel
theorem dX9_isNumberHere_4 : decode cX9_isNumberHere 4 = .ok (.iconst 2, 1) := by decide +kernel
theorem dX9_isNumberHere_5 : decode cX9_isNumberHere 5 = .ok (.if_icmp .eq 9, 3) := by decide +kernel
theorem dX9_isNumberHere_8 : decode cX9_isNumberHere 8 = .ok (.aload_n 0, 1) := by decide +kernel
theorem dX9_isNumberHere_9 : decode cX9_isNumberHere 9 = .ok (.iconst 1, 1) := by decide +kernel
theorem dX9_isNumberHere_10 : decode cX9_isNumberHere 10 = .ok (.invokevirtual 69, 3) := by decide +kernel
theorem dX9_isNumberHere_13 : decode cX9_isNumberHere 13 = .ok (.ireturn, 1) := by decide +kernel
theorem dX9_isNumberHere_14 : decode cX9_isNumberHere 14 = .ok (.aload_n 0, 1) := by decide +kernel
theorem dX9_isNumberHere_15 : decode cX9_isNumberHere 15 = .ok (.getfield 47, 3) := by decide +kernel
theorem dX9_isNumberHere_18 : decode cX9_isNumberHere 18 = .ok (.iload_n 1, 1) := by decide +kernel
theorem dX9_isNumberHere_19 : decode cX9_isNumberHere 19 = .ok (.if_icmp .lt 11, 3) := by decide +kernel
theorem dX9_isNumberHere_22 : decode cX9_isNumberHere 22 = .ok (.aload_n 0, 1) := by decide +kernel
theorem dX9_isNumberHere_23 : decode cX9_isNumberHere 23 = .ok (.getfield 47, 3) := by decide +kernel
theorem dX9_isNumberHere_26 : decode cX9_isNumberHere 26 = .ok (.iload_n 2, 1) := by decide +kernel
theorem dX9_isNumberHere_27 : decode cX9_isNumberHere 27 = .ok (.if_icmp .le 11, 3) := by decide +kernel
theorem dX9_isNumberHere_30 : decode cX9_isNumberHere 30 = .ok (.aload_n 0, 1) := by decide +kernel
theorem dX9_isNumberHere_31 : decode cX9_isNumberHere 31 = .ok (.iconst 2, 1) := by decide +kernel
theorem dX9_isNumberHere_32 : decode cX9_isNumberHere 32 = .ok (.invokevirtual 69, 3) := by decide +kernel
theorem dX9_isNumberHere_35 : decode cX9_isNumberHere 35 = .ok (.ifCond .eq 7, 3) := by decide +kernel
theorem dX9_isNumberHere_38 : decode cX9_isNumberHere 38 = .ok (.iconst 1, 1) := by decide +kernel
theorem dX9_isNumberHere_39 : decode cX9_isNumberHere 39 = .ok (.goto 4, 3) := by decide +kernel
theorem dX9_isNumberHere_42 : decode cX9_isNumberHere 42 = .ok (.iconst 0, 1) := by decide +kernel
theorem dX9_isNumberHere_43 : decode cX9_isNumberHere 43 = .ok (.ireturn, 1) := by decide +kernel
theorem dX9_takeNumber_0 : decode cX9_takeNumber 0 = .ok (.aload_n 0, 1) := by decide +kernel
theorem dX9_takeNumber_1 : decode cX9_takeNumber 1 = .ok (.iload_n 1, 1) := by decide +kernel
theorem dX9_takeNumber_2 : decode cX9_takeNumber 2 = .ok (.iload_n 2, 1) := by decide +kernel
theorem dX9_takeNumber_3 : decode cX9_takeNumber 3 = .ok (.invokevirtual 81, 3) := by decide +kernel
theorem dX9_takeNumber_6 : decode cX9_takeNumber 6 = .ok (.ifCond .ne 5, 3) := by decide +kernel
theorem dX9_takeNumber_9 : decode cX9_takeNumber 9 = .ok (.iconst (-1), 1) := by decide +kernel
theorem dX9_takeNumber_10 : decode cX9_takeNumber 10 = .ok (.ireturn, 1) := by decide +kernel
theorem dX9_takeNumber_11 : decode cX9_takeNumber 11 = .ok (.aload_n 0, 1) := by decide +kernel
theorem dX9_takeNumber_12 : decode cX9_takeNumber 12 = .ok (.getfield 47, 3) := by decide +kernel
theorem dX9_takeNumber_15 : decode cX9_takeNumber 15 = .ok (.istore_n 3, 1) := by decide +kernel
theorem dX9_takeNumber_16 : decode cX9_takeNumber 16 = .ok (.aload_n 0, 1) := by decide +kernel
theorem dX9_takeNumber_17 : decode cX9_takeNumber 17 = .ok (.invokevirtual 25, 3) := by decide +kernel
theorem dX9_takeNumber_20 : decode cX9_takeNumber 20 = .ok (.iload_n 3, 1) := by decide +kernel
theorem dX9_takeNumber_21 : decode cX9_takeNumber 21 = .ok (.ireturn, 1) := by decide +kernel
theorem dX9_isSemicolonTaken_0 : decode cX9_isSemicolonTaken 0 = .ok (.aload_n 0, 1) := by decide +kernel
theorem dX9_isSemicolonTaken_1 : decode cX9_isSemicolonTaken 1 = .ok (.getfield 44, 3) := by decide +kernel
theorem dX9_isSemicolonTaken_4 : decode cX9_isSemicolonTaken 4 = .ok (.iconst 3, 1) := by decide +kernel
theorem dX9_isSemicolonTaken_5 : decode cX9_isSemicolonTaken 5 = .ok (.if_icmp .eq 9, 3) := by decide +kernel
theorem dX9_isSemicolonTaken_8 : decode cX9_isSemicolonTaken 8 = .ok (.aload_n 0, 1) := by decide +kernel
theorem dX9_isSemicolonTaken_9 : decode cX9_isSemicolonTaken 9 = .ok (.iconst 1, 1) := by decide +kernel
theorem dX9_isSemicolonTaken_10 : decode cX9_isSemicolonTaken 10 = .ok (.invokevirtual 69, 3) := by decide +kernel
theorem dX9_isSemicolonTaken_13 : decode cX9_isSemicolonTaken 13 = .ok (.ireturn, 1) := by decide +kernel
theorem dX9_isSemicolonTaken_14 : decode cX9_isSemicolonTaken 14 = .ok (.aload_n 0, 1) := by decide +kernel
theorem dX9_isSemicolonTaken_15 : decode cX9_isSemicolonTaken 15 = .ok (.invokevirtual 25, 3) := by decide +kernel
theorem dX9_isSemicolonTaken_18 : decode cX9_isSemicolonTaken 18 = .ok (.iconst 1, 1) := by decide +kernel
theorem dX9_isSemicolonTaken_19 : decode cX9_isSemicolonTaken 19 = .ok (.ireturn, 1) := by decide +kernel
theorem dX10_init_0 : decode cX10_init 0 = .ok (.aload_n 0, 1) := by decide +kernel
theorem dX10_init_1 : decode cX10_init 1 = .ok (.invokespecial 1, 3) := by decide +kernel
theorem dX10_init_4 : decode cX10_init 4 = .ok (.aload_n 0, 1) := by decide +kernel
theorem dX10_init_5 : decode cX10_init 5 = .ok (.new 7, 3) := by decide +kernel
theorem dX10_init_8 : decode cX10_init 8 = .ok (.dup, 1) := by decide +kernel
theorem dX10_init_9 : decode cX10_init 9 = .ok (.sipush 800, 3) := by decide +kernel
theorem dX10_init_12 : decode cX10_init 12 = .ok (.invokespecial 11, 3) := by decide +kernel
theorem dX10_init_15 : decode cX10_init 15 = .ok (.putfield 14, 3) := by decide +kernel
theorem dX10_init_18 : decode cX10_init 18 = .ok (.aload_n 0, 1) := by decide +kernel
theorem dX10_init_19 : decode cX10_init 19 = .ok (.new 7, 3) := by decide +kernel
theorem dX10_init_22 : decode cX10_init 22 = .ok (.dup, 1) := by decide +kernel
theorem dX10_init_23 : decode cX10_init 23 = .ok (.sipush 400, 3) := by decide +kernel
theorem dX10_init_26 : decode cX10_init 26 = .ok (.invokespecial 11, 3) := by decide +kernel
theorem dX10_init_29 : decode cX10_init 29 = .ok (.putfield 18, 3) := by decide +kernel
theorem dX10_init_32 : decode cX10_init 32 = .ok (.aload_n 0, 1) := by decide +kernel
theorem dX10_init_33 : decode cX10_init 33 = .ok (.new 21, 3) := by decide +kernel
theorem dX10_init_36 : decode cX10_init 36 = .ok (.dup, 1) := by decide +kernel
theorem dX10_init_37 : decode cX10_init 37 = .ok (.invokespecial 23, 3) := by decide +kernel
theorem dX10_init_40 : decode cX10_init 40 = .ok (.putfield 24, 3) := by decide +kernel
theorem dX10_init_43 : decode cX10_init 43 = .ok (.aload_n 0, 1) := by decide +kernel
theorem dX10_init_44 : decode cX10_init 44 = .ok (.new 21, 3) := by decide +kernel
theorem dX10_init_47 : decode cX10_init 47 = .ok (.dup, 1) := by decide +kernel
theorem dX10_init_48 : decode cX10_init 48 = .ok (.invokespecial 23, 3) := by decide +kernel
theorem dX10_init_51 : decode cX10_init 51 = .ok (.putfield 28, 3) := by decide +kernel
theorem dX10_init_54 : decode cX10_init 54 = .ok (.aload_n 0, 1) := by decide +kernel
theorem dX10_init_55 : decode cX10_init 55 = .ok (.new 21, 3) := by decide +kernel
theorem dX10_init_58 : decode cX10_init 58 = .ok (.dup, 1) := by decide +kernel
theorem dX10_init_59 : decode cX10_init 59 = .ok (.invokespecial 23, 3) := by decide +kernel
theorem dX10_init_62 : decode cX10_init 62 = .ok (.putfield 31, 3) := by decide +kernel
theorem dX10_init_65 : decode cX10_init 65 = .ok (.aload_n 0, 1) := by decide +kernel
theorem dX10_init_66 : decode cX10_init 66 = .ok (.new 34, 3) := by decide +kernel
theorem dX10_init_69 : decode cX10_init 69 = .ok (.dup, 1) := by decide +kernel
theorem dX10_init_70 : decode cX10_init 70 = .ok (.invokespecial 36, 3) := by decide +kernel
theorem dX10_init_73 : decode cX10_init 73 = .ok (.putfield 37, 3) := by decide +kernel
theorem dX10_init_76 : decode cX10_init 76 = .ok (.aload_n 0, 1) := by decide +kernel
theorem dX10_init_77 : decode cX10_init 77 = .ok (.new 41, 3) := by decide +kernel
theorem dX10_init_80 : decode cX10_init 80 = .ok (.dup, 1) := by decide +kernel
theorem dX10_init_81 : decode cX10_init 81 = .ok (.aload_n 0, 1) := by decide +kernel
theorem dX10_init_82 : decode cX10_init 82 = .ok (.getfield 14, 3) := by decide +kernel
theorem dX10_init_85 : decode cX10_init 85 = .ok (.invokespecial 43, 3) := by decide +kernel
theorem dX10_init_88 : decode cX10_init 88 = .ok (.putfield 46, 3) := by decide +kernel
theorem dX10_init_91 : decode cX10_init 91 = .ok (.aload_n 0, 1) := by decide +kernel
theorem dX10_init_92 : decode cX10_init 92 = .ok (.new 50, 3) := by decide +kernel
theorem dX10_init_95 : decode cX10_init 95 = .ok (.dup, 1) := by decide +kernel
theorem dX10_init_96 : decode cX10_init 96 = .ok (.aload_n 0, 1) := by decide +kernel
theorem dX10_init_97 : decode cX10_init 97 = .ok (.getfield 46, 3) := by decide +kernel
theorem dX10_init_100 : decode cX10_init 100 = .ok (.aload_n 0, 1) := by decide +kernel
theorem dX10_init_101 : decode cX10_init 101 = .ok (.getfield 31, 3) := by decide +kernel
theorem dX10_init_104 : decode cX10_init 104 = .ok (.invokespecial 52, 3) := by decide +kernel
theorem dX10_init_107 : decode cX10_init 107 = .ok (.putfield 55, 3) := by decide +kernel
theorem dX10_init_110 : decode cX10_init 110 = .ok (.aload_n 0, 1) := by decide +kernel
theorem dX10_init_111 : decode cX10_init 111 = .ok (.new 59, 3) := by decide +kernel
theorem dX10_init_114 : decode cX10_init 114 = .ok (.dup, 1) := by decide +kernel
theorem dX10_init_115 : decode cX10_init 115 = .ok (.aload_n 0, 1) := by decide +kernel
theorem dX10_init_116 : decode cX10_init 116 = .ok (.getfield 46, 3) := by decide +kernel
theorem dX10_init_119 : decode cX10_init 119 = .ok (.aload_n 0, 1) := by decide +kernel
theorem dX10_init_120 : decode cX10_init 120 = .ok (.getfield 24, 3) := by decide +kernel
theorem dX10_init_123 : decode cX10_init 123 = .ok (.invokespecial 61, 3) := by decide +kernel
theorem dX10_init_126 : decode cX10_init 126 = .ok (.putfield 62, 3) := by decide +kernel
theorem dX10_init_129 : decode cX10_init 129 = .ok (.aload_n 0, 1) := by decide +kernel
theorem dX10_init_130 : decode cX10_init 130 = .ok (.iconst 0, 1) := by decide +kernel
theorem dX10_init_131 : decode cX10_init 131 = .ok (.putfield 66, 3) := by decide +kernel
theorem dX10_init_134 : decode cX10_init 134 = .ok (.aload_n 0, 1) := by decide +kernel
theorem dX10_init_135 : decode cX10_init 135 = .ok (.getfield 14, 3) := by decide +kernel
theorem dX10_init_138 : decode cX10_init 138 = .ok (.ldc 70, 2) := by decide +kernel
theorem dX10_init_140 : decode cX10_init 140 = .ok (.invokevirtual 72, 3) := by decide +kernel
theorem dX10_init_143 : decode cX10_init 143 = .ok (.aload_n 0, 1) := by decide +kernel
theorem dX10_init_144 : decode cX10_init 144 = .ok (.getfield 55, 3) := by decide +kernel
theorem dX10_init_147 : decode cX10_init 147 = .ok (.invokevirtual 76, 3) := by decide +kernel
theorem dX10_init_150 : decode cX10_init 150 = .ok (.ifCond .eq 14, 3) := by decide +kernel
theorem dX10_init_153 : decode cX10_init 153 = .ok (.aload_n 0, 1) := by decide +kernel
theorem dX10_init_154 : decode cX10_init 154 = .ok (.getfield 24, 3) := by decide +kernel
theorem dX10_init_157 : decode cX10_init 157 = .ok (.aload_n 0, 1) := by decide +kernel
theorem dX10_init_158 : decode cX10_init 158 = .ok (.getfield 31, 3) := by decide +kernel
theorem dX10_init_161 : decode cX10_init 161 = .ok (.invokevirtual 80, 3) := by decide +kernel
theorem dX10_init_164 : decode cX10_init 164 = .ok (.aload_n 0, 1) := by decide +kernel
theorem dX10_init_165 : decode cX10_init 165 = .ok (.getfield 14, 3) := by decide +kernel
theorem dX10_init_168 : decode cX10_init 168 = .ok (.invokevirtual 84, 3) := by decide +kernel
theorem dX10_init_171 : decode cX10_init 171 = .ok (.return_, 1) := by decide +kernel
theorem dX10_appendInput_0 : decode cX10_appendInput 0 = .ok (.aload_n 0, 1) := by decide +kernel
theorem dX10_appendInput_1 : decode cX10_appendInput 1 = .ok (.getfield 14, 3) := by decide +kernel
theorem dX10_appendInput_4 : decode cX10_appendInput 4 = .ok (.invokevirtual 87, 3) := by decide +kernel
theorem dX10_appendInput_7 : decode cX10_appendInput 7 = .ok (.bipush 20, 2) := by decide +kernel
theorem dX10_appendInput_9 : decode cX10_appendInput 9 = .ok (.iadd, 1) := by decide +kernel
theorem dX10_appendInput_10 : decode cX10_appendInput 10 = .ok (.sipush 800, 3) := by decide +kernel
theorem dX10_appendInput_13 : decode cX10_appendInput 13 = .ok (.if_icmp .le 5, 3) := by decide +kernel
theorem dX10_appendInput_16 : decode cX10_appendInput 16 = .ok (.iconst (-1), 1) := by decide +kernel
theorem dX10_appendInput_17 : decode cX10_appendInput 17 = .ok (.ireturn, 1) := by decide +kernel
theorem dX10_appendInput_18 : decode cX10_appendInput 18 = .ok (.aload_n 0, 1) := by decide +kernel
theorem dX10_appendInput_19 : decode cX10_appendInput 19 = .ok (.iload_n 1, 1) := by decide +kernel
theorem dX10_appendInput_20 : decode cX10_appendInput 20 = .ok (.invokevirtual 91, 3) := by decide +kernel
theorem dX10_appendInput_23 : decode cX10_appendInput 23 = .ok (.aload_n 0, 1) := by decide +kernel
theorem dX10_appendInput_24 : decode cX10_appendInput 24 = .ok (.iload_n 2, 1) := by decide +kernel
theorem dX10_appendInput_25 : decode cX10_appendInput 25 = .ok (.invokevirtual 91, 3) := by decide +kernel
theorem dX10_appendInput_28 : decode cX10_appendInput 28 = .ok (.aload_n 0, 1) := by decide +kernel
theorem dX10_appendInput_29 : decode cX10_appendInput 29 = .ok (.iload_n 3, 1) := by decide +kernel
theorem dX10_appendInput_30 : decode cX10_appendInput 30 = .ok (.invokevirtual 91, 3) := by decide +kernel
theorem dX10_appendInput_33 : decode cX10_appendInput 33 = .ok (.aload_n 0, 1) := by decide +kernel
theorem dX10_appendInput_34 : decode cX10_appendInput 34 = .ok (.iload 4, 2) := by decide +kernel
theorem dX10_appendInput_36 : decode cX10_appendInput 36 = .ok (.invokevirtual 91, 3) := by decide +kernel
theorem dX10_appendInput_39 : decode cX10_appendInput 39 = .ok (.aload_n 0, 1) := by decide +kernel
theorem dX10_appendInput_40 : decode cX10_appendInput 40 = .ok (.iload 5, 2) := by decide +kernel
theorem dX10_appendInput_42 : decode cX10_appendInput 42 = .ok (.invokevirtual 91, 3) := by decide +kernel
theorem dX10_appendInput_45 : decode cX10_appendInput 45 = .ok (.aload_n 0, 1) := by decide +kernel
theorem dX10_appendInput_46 : decode cX10_appendInput 46 = .ok (.getfield 14, 3) := by decide +kernel
theorem dX10_appendInput_49 : decode cX10_appendInput 49 = .ok (.invokevirtual 87, 3) := by decide +kernel
theorem dX10_appendInput_52 : decode cX10_appendInput 52 = .ok (.ireturn, 1) := by decide +kernel
theorem dX10_appendFour_0 : decode cX10_appendFour 0 = .ok (.bipush 24, 2) := by decide +kernel
theorem dX10_appendFour_2 : decode cX10_appendFour 2 = .ok (.istore_n 2, 1) := by decide +kernel
theorem dX10_appendFour_3 : decode cX10_appendFour 3 = .ok (.iload_n 2, 1) := by decide +kernel
theorem dX10_appendFour_4 : decode cX10_appendFour 4 = .ok (.ifCond .lt 23, 3) := by decide +kernel
theorem dX10_appendFour_7 : decode cX10_appendFour 7 = .ok (.aload_n 0, 1) := by decide +kernel
theorem dX10_appendFour_8 : decode cX10_appendFour 8 = .ok (.getfield 14, 3) := by decide +kernel
theorem dX10_appendFour_11 : decode cX10_appendFour 11 = .ok (.iload_n 1, 1) := by decide +kernel
theorem dX10_appendFour_12 : decode cX10_appendFour 12 = .ok (.iload_n 2, 1) := by decide +kernel
theorem dX10_appendFour_13 : decode cX10_appendFour 13 = .ok (.iushr, 1) := by decide +kernel
theorem dX10_appendFour_14 : decode cX10_appendFour 14 = .ok (.sipush 255, 3) := by decide +kernel
theorem dX10_appendFour_17 : decode cX10_appendFour 17 = .ok (.iand, 1) := by decide +kernel
theorem dX10_appendFour_18 : decode cX10_appendFour 18 = .ok (.invokevirtual 94, 3) := by decide +kernel
theorem dX10_appendFour_21 : decode cX10_appendFour 21 = .ok (.iinc 2 (-8), 3) := by decide +kernel
theorem dX10_appendFour_24 : decode cX10_appendFour 24 = .ok (.goto (-21), 3) := by decide +kernel
theorem dX10_appendFour_27 : decode cX10_appendFour 27 = .ok (.return_, 1) := by decide +kernel
theorem dX10_truncateInput_0 : decode cX10_truncateInput 0 = .ok (.aload_n 0, 1) := by decide +kernel
theorem dX10_truncateInput_1 : decode cX10_truncateInput 1 = .ok (.getfield 14, 3) := by decide +kernel
theorem dX10_truncateInput_4 : decode cX10_truncateInput 4 = .ok (.iload_n 1, 1) := by decide +kernel
theorem dX10_truncateInput_5 : decode cX10_truncateInput 5 = .ok (.invokevirtual 97, 3) := by decide +kernel
theorem dX10_truncateInput_8 : decode cX10_truncateInput 8 = .ok (.ireturn, 1) := by decide +kernel
theorem dX10_loadPost_0 : decode cX10_loadPost 0 = .ok (.aload_n 0, 1) := by decide +kernel
theorem dX10_loadPost_1 : decode cX10_loadPost 1 = .ok (.getfield 55, 3) := by decide +kernel
theorem dX10_loadPost_4 : decode cX10_loadPost 4 = .ok (.invokevirtual 76, 3) := by decide +kernel
theorem dX10_loadPost_7 : decode cX10_loadPost 7 = .ok (.istore_n 1, 1) := by decide +kernel
theorem dX10_loadPost_8 : decode cX10_loadPost 8 = .ok (.aload_n 0, 1) := by decide +kernel
theorem dX10_loadPost_9 : decode cX10_loadPost 9 = .ok (.getfield 14, 3) := by decide +kernel
theorem dX10_loadPost_12 : decode cX10_loadPost 12 = .ok (.invokevirtual 84, 3) := by decide +kernel
theorem dX10_loadPost_15 : decode cX10_loadPost 15 = .ok (.iload_n 1, 1) := by decide +kernel
theorem dX10_loadPost_16 : decode cX10_loadPost 16 = .ok (.ifCond .ne 5, 3) := by decide +kernel
theorem dX10_loadPost_19 : decode cX10_loadPost 19 = .ok (.iconst (-1), 1) := by decide +kernel
theorem dX10_loadPost_20 : decode cX10_loadPost 20 = .ok (.ireturn, 1) := by decide +kernel
theorem dX10_loadPost_21 : decode cX10_loadPost 21 = .ok (.aload_n 0, 1) := by decide +kernel
theorem dX10_loadPost_22 : decode cX10_loadPost 22 = .ok (.getfield 24, 3) := by decide +kernel
theorem dX10_loadPost_25 : decode cX10_loadPost 25 = .ok (.aload_n 0, 1) := by decide +kernel
theorem dX10_loadPost_26 : decode cX10_loadPost 26 = .ok (.getfield 31, 3) := by decide +kernel
theorem dX10_loadPost_29 : decode cX10_loadPost 29 = .ok (.invokevirtual 80, 3) := by decide +kernel
theorem dX10_loadPost_32 : decode cX10_loadPost 32 = .ok (.aload_n 0, 1) := by decide +kernel
theorem dX10_loadPost_33 : decode cX10_loadPost 33 = .ok (.getfield 37, 3) := by decide +kernel
theorem dX10_loadPost_36 : decode cX10_loadPost 36 = .ok (.invokevirtual 101, 3) := by decide +kernel
theorem dX10_loadPost_39 : decode cX10_loadPost 39 = .ok (.aload_n 0, 1) := by decide +kernel
theorem dX10_loadPost_40 : decode cX10_loadPost 40 = .ok (.iconst 0, 1) := by decide +kernel
theorem dX10_loadPost_41 : decode cX10_loadPost 41 = .ok (.putfield 66, 3) := by decide +kernel
theorem dX10_loadPost_44 : decode cX10_loadPost 44 = .ok (.aload_n 0, 1) := by decide +kernel
theorem dX10_loadPost_45 : decode cX10_loadPost 45 = .ok (.getfield 24, 3) := by decide +kernel
theorem dX10_loadPost_48 : decode cX10_loadPost 48 = .ok (.getfield 104, 3) := by decide +kernel
theorem dX10_loadPost_51 : decode cX10_loadPost 51 = .ok (.ireturn, 1) := by decide +kernel
theorem dX10_playScript_0 : decode cX10_playScript 0 = .ok (.aload_n 0, 1) := by decide +kernel
theorem dX10_playScript_1 : decode cX10_playScript 1 = .ok (.getfield 62, 3) := by decide +kernel
theorem dX10_playScript_4 : decode cX10_playScript 4 = .ok (.invokevirtual 108, 3) := by decide +kernel
theorem dX10_playScript_7 : decode cX10_playScript 7 = .ok (.istore_n 1, 1) := by decide +kernel
theorem dX10_playScript_8 : decode cX10_playScript 8 = .ok (.aload_n 0, 1) := by decide +kernel
theorem dX10_playScript_9 : decode cX10_playScript 9 = .ok (.getfield 14, 3) := by decide +kernel
theorem dX10_playScript_12 : decode cX10_playScript 12 = .ok (.invokevirtual 84, 3) := by decide +kernel
theorem dX10_playScript_15 : decode cX10_playScript 15 = .ok (.iload_n 1, 1) := by decide +kernel
theorem dX10_playScript_16 : decode cX10_playScript 16 = .ok (.ifCond .ne 5, 3) := by decide +kernel
theorem dX10_playScript_19 : decode cX10_playScript 19 = .ok (.iconst (-1), 1) := by decide +kernel
theorem dX10_playScript_20 : decode cX10_playScript 20 = .ok (.ireturn, 1) := by decide +kernel
theorem dX10_playScript_21 : decode cX10_playScript 21 = .ok (.aload_n 0, 1) := by decide +kernel
theorem dX10_playScript_22 : decode cX10_playScript 22 = .ok (.getfield 37, 3) := by decide +kernel
theorem dX10_playScript_25 : decode cX10_playScript 25 = .ok (.aload_n 0, 1) := by decide +kernel
theorem dX10_playScript_26 : decode cX10_playScript 26 = .ok (.getfield 24, 3) := by decide +kernel
theorem dX10_playScript_29 : decode cX10_playScript 29 = .ok (.invokevirtual 109, 3) := by decide +kernel
theorem dX10_playScript_32 : decode cX10_playScript 32 = .ok (.iconst 0, 1) := by decide +kernel
theorem dX10_playScript_33 : decode cX10_playScript 33 = .ok (.istore_n 2, 1) := by decide +kernel
theorem dX10_playScript_34 : decode cX10_playScript 34 = .ok (.iload_n 2, 1) := by decide +kernel
theorem dX10_playScript_35 : decode cX10_playScript 35 = .ok (.aload_n 0, 1) := by decide +kernel
theorem dX10_playScript_36 : decode cX10_playScript 36 = .ok (.getfield 62, 3) := by decide +kernel
theorem dX10_playScript_39 : decode cX10_playScript 39 = .ok (.getfield 112, 3) := by decide +kernel
theorem dX10_playScript_42 : decode cX10_playScript 42 = .ok (.if_icmp .ge 17, 3) := by decide +kernel
theorem dX10_playScript_45 : decode cX10_playScript 45 = .ok (.aload_n 0, 1) := by decide +kernel
theorem dX10_playScript_46 : decode cX10_playScript 46 = .ok (.iload_n 2, 1) := by decide +kernel
theorem dX10_playScript_47 : decode cX10_playScript 47 = .ok (.invokevirtual 115, 3) := by decide +kernel
theorem dX10_playScript_50 : decode cX10_playScript 50 = .ok (.ifCond .eq 9, 3) := by decide +kernel
theorem dX10_playScript_53 : decode cX10_playScript 53 = .ok (.iinc 2 1, 3) := by decide +kernel
theorem dX10_playScript_56 : decode cX10_playScript 56 = .ok (.goto (-22), 3) := by decide +kernel
theorem dX10_playScript_59 : decode cX10_playScript 59 = .ok (.iload_n 2, 1) := by decide +kernel
theorem dX10_playScript_60 : decode cX10_playScript 60 = .ok (.ireturn, 1) := by decide +kernel
theorem dX10_isPlayed_0 : decode cX10_isPlayed 0 = .ok (.aload_n 0, 1) := by decide +kernel
theorem dX10_isPlayed_1 : decode cX10_isPlayed 1 = .ok (.getfield 62, 3) := by decide +kernel
theorem dX10_isPlayed_4 : decode cX10_isPlayed 4 = .ok (.getfield 118, 3) := by decide +kernel
theorem dX10_isPlayed_7 : decode cX10_isPlayed 7 = .ok (.iload_n 1, 1) := by decide +kernel
theorem dX10_isPlayed_8 : decode cX10_isPlayed 8 = .ok (.iconst 1, 1) := by decide +kernel
theorem dX10_isPlayed_9 : decode cX10_isPlayed 9 = .ok (.invokevirtual 122, 3) := by decide +kernel
theorem dX10_isPlayed_12 : decode cX10_isPlayed 12 = .ok (.istore_n 2, 1) := by decide +kernel
theorem dX10_isPlayed_13 : decode cX10_isPlayed 13 = .ok (.aload_n 0, 1) := by decide +kernel
theorem dX10_isPlayed_14 : decode cX10_isPlayed 14 = .ok (.getfield 62, 3) := by decide +kernel
theorem dX10_isPlayed_17 : decode cX10_isPlayed 17 = .ok (.getfield 118, 3) := by decide +kernel
theorem dX10_isPlayed_20 : decode cX10_isPlayed 20 = .ok (.iload_n 1, 1) := by decide +kernel
theorem dX10_isPlayed_21 : decode cX10_isPlayed 21 = .ok (.iconst 2, 1) := by decide +kernel
theorem dX10_isPlayed_22 : decode cX10_isPlayed 22 = .ok (.invokevirtual 122, 3) := by decide +kernel
theorem dX10_isPlayed_25 : decode cX10_isPlayed 25 = .ok (.istore_n 3, 1) := by decide +kernel
theorem dX10_isPlayed_26 : decode cX10_isPlayed 26 = .ok (.aload_n 0, 1) := by decide +kernel
theorem dX10_isPlayed_27 : decode cX10_isPlayed 27 = .ok (.getfield 62, 3) := by decide +kernel
theorem dX10_isPlayed_30 : decode cX10_isPlayed 30 = .ok (.getfield 118, 3) := by decide +kernel
theorem dX10_isPlayed_33 : decode cX10_isPlayed 33 = .ok (.iload_n 1, 1) := by decide +kernel
theorem dX10_isPlayed_34 : decode cX10_isPlayed 34 = .ok (.iconst 3, 1) := by decide +kernel
theorem dX10_isPlayed_35 : decode cX10_isPlayed 35 = .ok (.invokevirtual 122, 3) := by decide +kernel
theorem dX10_isPlayed_38 : decode cX10_isPlayed 38 = .ok (.istore 4, 2) := by decide +kernel
theorem dX10_isPlayed_40 : decode cX10_isPlayed 40 = .ok (.aload_n 0, 1) := by decide +kernel
theorem dX10_isPlayed_41 : decode cX10_isPlayed 41 = .ok (.getfield 62, 3) := by decide +kernel
theorem dX10_isPlayed_44 : decode cX10_isPlayed 44 = .ok (.getfield 118, 3) := by decide +kernel
theorem dX10_isPlayed_47 : decode cX10_isPlayed 47 = .ok (.iload_n 1, 1) := by decide +kernel
theorem dX10_isPlayed_48 : decode cX10_isPlayed 48 = .ok (.iconst 0, 1) := by decide +kernel
theorem dX10_isPlayed_49 : decode cX10_isPlayed 49 = .ok (.invokevirtual 122, 3) := by decide +kernel
theorem dX10_isPlayed_52 : decode cX10_isPlayed 52 = .ok (.istore 5, 2) := by decide +kernel
theorem dX10_isPlayed_54 : decode cX10_isPlayed 54 = .ok (.iload 5, 2) := by decide +kernel
theorem dX10_isPlayed_56 : decode cX10_isPlayed 56 = .ok (.tableswitch 106 0 4 #[36, 36, 44, 69, 96], 36) := by decide +kernel
theorem dX10_isPlayed_92 : decode cX10_isPlayed 92 = .ok (.aload_n 0, 1) := by decide +kernel
theorem dX10_isPlayed_93 : decode cX10_isPlayed 93 = .ok (.iload_n 2, 1) := by decide +kernel
theorem dX10_isPlayed_94 : decode cX10_isPlayed 94 = .ok (.iload_n 3, 1) := by decide +kernel
theorem dX10_isPlayed_95 : decode cX10_isPlayed 95 = .ok (.iload_n 1, 1) := by decide +kernel
theorem dX10_isPlayed_96 : decode cX10_isPlayed 96 = .ok (.invokevirtual 128, 3) := by decide +kernel
theorem dX10_isPlayed_99 : decode cX10_isPlayed 99 = .ok (.ireturn, 1) := by decide +kernel
theorem dX10_isPlayed_100 : decode cX10_isPlayed 100 = .ok (.aload_n 0, 1) := by decide +kernel
theorem dX10_isPlayed_101 : decode cX10_isPlayed 101 = .ok (.getfield 24, 3) := by decide +kernel
theorem dX10_isPlayed_104 : decode cX10_isPlayed 104 = .ok (.iload 4, 2) := by decide +kernel
theorem dX10_isPlayed_106 : decode cX10_isPlayed 106 = .ok (.invokevirtual 132, 3) := by decide +kernel
theorem dX10_isPlayed_109 : decode cX10_isPlayed 109 = .ok (.ifCond .ne 5, 3) := by decide +kernel
theorem dX10_isPlayed_112 : decode cX10_isPlayed 112 = .ok (.iconst 0, 1) := by decide +kernel
theorem dX10_isPlayed_113 : decode cX10_isPlayed 113 = .ok (.ireturn, 1) := by decide +kernel
theorem dX10_isPlayed_114 : decode cX10_isPlayed 114 = .ok (.aload_n 0, 1) := by decide +kernel
theorem dX10_isPlayed_115 : decode cX10_isPlayed 115 = .ok (.getfield 24, 3) := by decide +kernel
theorem dX10_isPlayed_118 : decode cX10_isPlayed 118 = .ok (.iload 4, 2) := by decide +kernel
theorem dX10_isPlayed_120 : decode cX10_isPlayed 120 = .ok (.invokestatic 135, 3) := by decide +kernel
theorem dX10_isPlayed_123 : decode cX10_isPlayed 123 = .ok (.iconst 1, 1) := by decide +kernel
theorem dX10_isPlayed_124 : decode cX10_isPlayed 124 = .ok (.ireturn, 1) := by decide +kernel
theorem dX10_isPlayed_125 : decode cX10_isPlayed 125 = .ok (.aload_n 0, 1) := by decide +kernel
theorem dX10_isPlayed_126 : decode cX10_isPlayed 126 = .ok (.getfield 24, 3) := by decide +kernel
theorem dX10_isPlayed_129 : decode cX10_isPlayed 129 = .ok (.iload_n 2, 1) := by decide +kernel
theorem dX10_isPlayed_130 : decode cX10_isPlayed 130 = .ok (.iload 4, 2) := by decide +kernel
theorem dX10_isPlayed_132 : decode cX10_isPlayed 132 = .ok (.invokevirtual 141, 3) := by decide +kernel
theorem dX10_isPlayed_135 : decode cX10_isPlayed 135 = .ok (.ifCond .ne 5, 3) := by decide +kernel
theorem dX10_isPlayed_138 : decode cX10_isPlayed 138 = .ok (.iconst 0, 1) := by decide +kernel
theorem dX10_isPlayed_139 : decode cX10_isPlayed 139 = .ok (.ireturn, 1) := by decide +kernel
theorem dX10_isPlayed_140 : decode cX10_isPlayed 140 = .ok (.aload_n 0, 1) := by decide +kernel
theorem dX10_isPlayed_141 : decode cX10_isPlayed 141 = .ok (.getfield 24, 3) := by decide +kernel
theorem dX10_isPlayed_144 : decode cX10_isPlayed 144 = .ok (.iload_n 2, 1) := by decide +kernel
theorem dX10_isPlayed_145 : decode cX10_isPlayed 145 = .ok (.iload 4, 2) := by decide +kernel
theorem dX10_isPlayed_147 : decode cX10_isPlayed 147 = .ok (.invokevirtual 145, 3) := by decide +kernel
theorem dX10_isPlayed_150 : decode cX10_isPlayed 150 = .ok (.iconst 1, 1) := by decide +kernel
theorem dX10_isPlayed_151 : decode cX10_isPlayed 151 = .ok (.ireturn, 1) := by decide +kernel
theorem dX10_isPlayed_152 : decode cX10_isPlayed 152 = .ok (.aload_n 0, 1) := by decide +kernel
theorem dX10_isPlayed_153 : decode cX10_isPlayed 153 = .ok (.getfield 24, 3) := by decide +kernel
theorem dX10_isPlayed_156 : decode cX10_isPlayed 156 = .ok (.iload_n 2, 1) := by decide +kernel
theorem dX10_isPlayed_157 : decode cX10_isPlayed 157 = .ok (.iload_n 3, 1) := by decide +kernel
theorem dX10_isPlayed_158 : decode cX10_isPlayed 158 = .ok (.invokevirtual 149, 3) := by decide +kernel
theorem dX10_isPlayed_161 : decode cX10_isPlayed 161 = .ok (.ireturn, 1) := by decide +kernel
theorem dX10_isPlayed_162 : decode cX10_isPlayed 162 = .ok (.aload_n 0, 1) := by decide +kernel
theorem dX10_isPlayed_163 : decode cX10_isPlayed 163 = .ok (.getfield 24, 3) := by decide +kernel
theorem dX10_isPlayed_166 : decode cX10_isPlayed 166 = .ok (.iload 5, 2) := by decide +kernel
theorem dX10_isPlayed_168 : decode cX10_isPlayed 168 = .ok (.iload 4, 2) := by decide +kernel
theorem dX10_isPlayed_170 : decode cX10_isPlayed 170 = .ok (.invokevirtual 152, 3) := by decide +kernel
theorem dX10_isPlayed_173 : decode cX10_isPlayed 173 = .ok (.iconst 1, 1) := by decide +kernel
theorem dX10_isPlayed_174 : decode cX10_isPlayed 174 = .ok (.ireturn, 1) := by decide +kernel
theorem dX10_isSent_0 : decode cX10_isSent 0 = .ok (.aload_n 0, 1) := by decide +kernel
theorem dX10_isSent_1 : decode cX10_isSent 1 = .ok (.getfield 24, 3) := by decide +kernel
theorem dX10_isSent_4 : decode cX10_isSent 4 = .ok (.getfield 155, 3) := by decide +kernel
theorem dX10_isSent_7 : decode cX10_isSent 7 = .ok (.bipush 30, 2) := by decide +kernel
theorem dX10_isSent_9 : decode cX10_isSent 9 = .ok (.if_icmp .lt 5, 3) := by decide +kernel
theorem dX10_isSent_12 : decode cX10_isSent 12 = .ok (.iconst 0, 1) := by decide +kernel
theorem dX10_isSent_13 : decode cX10_isSent 13 = .ok (.ireturn, 1) := by decide +kernel
theorem dX10_isSent_14 : decode cX10_isSent 14 = .ok (.aload_n 0, 1) := by decide +kernel
theorem dX10_isSent_15 : decode cX10_isSent 15 = .ok (.getfield 62, 3) := by decide +kernel
theorem dX10_isSent_18 : decode cX10_isSent 18 = .ok (.getfield 118, 3) := by decide +kernel
theorem dX10_isSent_21 : decode cX10_isSent 21 = .ok (.iload_n 3, 1) := by decide +kernel
theorem dX10_isSent_22 : decode cX10_isSent 22 = .ok (.iconst 4, 1) := by decide +kernel
theorem dX10_isSent_23 : decode cX10_isSent 23 = .ok (.invokevirtual 122, 3) := by decide +kernel
theorem dX10_isSent_26 : decode cX10_isSent 26 = .ok (.istore 4, 2) := by decide +kernel
theorem dX10_isSent_28 : decode cX10_isSent 28 = .ok (.aload_n 0, 1) := by decide +kernel
theorem dX10_isSent_29 : decode cX10_isSent 29 = .ok (.getfield 62, 3) := by decide +kernel
theorem dX10_isSent_32 : decode cX10_isSent 32 = .ok (.getfield 118, 3) := by decide +kernel
theorem dX10_isSent_35 : decode cX10_isSent 35 = .ok (.iload_n 3, 1) := by decide +kernel
theorem dX10_isSent_36 : decode cX10_isSent 36 = .ok (.iconst 3, 1) := by decide +kernel
theorem dX10_isSent_37 : decode cX10_isSent 37 = .ok (.invokevirtual 122, 3) := by decide +kernel
theorem dX10_isSent_40 : decode cX10_isSent 40 = .ok (.istore 5, 2) := by decide +kernel
theorem dX10_isSent_42 : decode cX10_isSent 42 = .ok (.aload_n 0, 1) := by decide +kernel
theorem dX10_isSent_43 : decode cX10_isSent 43 = .ok (.getfield 62, 3) := by decide +kernel
theorem dX10_isSent_46 : decode cX10_isSent 46 = .ok (.getfield 118, 3) := by decide +kernel
theorem dX10_isSent_49 : decode cX10_isSent 49 = .ok (.iload_n 3, 1) := by decide +kernel
theorem dX10_isSent_50 : decode cX10_isSent 50 = .ok (.iconst 0, 1) := by decide +kernel
theorem dX10_isSent_51 : decode cX10_isSent 51 = .ok (.invokevirtual 122, 3) := by decide +kernel
theorem dX10_isSent_54 : decode cX10_isSent 54 = .ok (.iconst 1, 1) := by decide +kernel
theorem dX10_isSent_55 : decode cX10_isSent 55 = .ok (.if_icmp .ne 7, 3) := by decide +kernel
theorem dX10_isSent_58 : decode cX10_isSent 58 = .ok (.iconst 1, 1) := by decide +kernel
theorem dX10_isSent_59 : decode cX10_isSent 59 = .ok (.goto 4, 3) := by decide +kernel
theorem dX10_isSent_62 : decode cX10_isSent 62 = .ok (.iconst 0, 1) := by decide +kernel
theorem dX10_isSent_63 : decode cX10_isSent 63 = .ok (.istore 6, 2) := by decide +kernel
theorem dX10_isSent_65 : decode cX10_isSent 65 = .ok (.aload_n 0, 1) := by decide +kernel
theorem dX10_isSent_66 : decode cX10_isSent 66 = .ok (.getfield 24, 3) := by decide +kernel
theorem dX10_isSent_69 : decode cX10_isSent 69 = .ok (.iload_n 1, 1) := by decide +kernel
theorem dX10_isSent_70 : decode cX10_isSent 70 = .ok (.iload_n 2, 1) := by decide +kernel
theorem dX10_isSent_71 : decode cX10_isSent 71 = .ok (.iload 4, 2) := by decide +kernel
theorem dX10_isSent_73 : decode cX10_isSent 73 = .ok (.iload 5, 2) := by decide +kernel
theorem dX10_isSent_75 : decode cX10_isSent 75 = .ok (.iconst 0, 1) := by decide +kernel
theorem dX10_isSent_76 : decode cX10_isSent 76 = .ok (.iload 6, 2) := by decide +kernel
theorem dX10_isSent_78 : decode cX10_isSent 78 = .ok (.invokevirtual 158, 3) := by decide +kernel
theorem dX10_isSent_81 : decode cX10_isSent 81 = .ok (.pop, 1) := by decide +kernel
theorem dX10_isSent_82 : decode cX10_isSent 82 = .ok (.iconst 1, 1) := by decide +kernel
theorem dX10_isSent_83 : decode cX10_isSent 83 = .ok (.ireturn, 1) := by decide +kernel
theorem dX10_errorCode_0 : decode cX10_errorCode 0 = .ok (.aload_n 0, 1) := by decide +kernel
theorem dX10_errorCode_1 : decode cX10_errorCode 1 = .ok (.getfield 46, 3) := by decide +kernel
theorem dX10_errorCode_4 : decode cX10_errorCode 4 = .ok (.getfield 162, 3) := by decide +kernel
theorem dX10_errorCode_7 : decode cX10_errorCode 7 = .ok (.ireturn, 1) := by decide +kernel
theorem dX10_errorOffset_0 : decode cX10_errorOffset 0 = .ok (.aload_n 0, 1) := by decide +kernel
theorem dX10_errorOffset_1 : decode cX10_errorOffset 1 = .ok (.getfield 46, 3) := by decide +kernel
theorem dX10_errorOffset_4 : decode cX10_errorOffset 4 = .ok (.getfield 165, 3) := by decide +kernel
theorem dX10_errorOffset_7 : decode cX10_errorOffset 7 = .ok (.ireturn, 1) := by decide +kernel
theorem dX10_count_0 : decode cX10_count 0 = .ok (.aload_n 0, 1) := by decide +kernel
theorem dX10_count_1 : decode cX10_count 1 = .ok (.iload_n 1, 1) := by decide +kernel
theorem dX10_count_2 : decode cX10_count 2 = .ok (.iconst 0, 1) := by decide +kernel
theorem dX10_count_3 : decode cX10_count 3 = .ok (.bipush 13, 2) := by decide +kernel
theorem dX10_count_5 : decode cX10_count 5 = .ok (.invokevirtual 168, 3) := by decide +kernel
theorem dX10_count_8 : decode cX10_count 8 = .ok (.iload_n 1, 1) := by decide +kernel
theorem dX10_count_9 : decode cX10_count 9 = .ok (.bipush 13, 2) := by decide +kernel
theorem dX10_count_11 : decode cX10_count 11 = .ok (.if_icmp .ne 13, 3) := by decide +kernel
theorem dX10_count_14 : decode cX10_count 14 = .ok (.aload_n 0, 1) := by decide +kernel
theorem dX10_count_15 : decode cX10_count 15 = .ok (.getfield 37, 3) := by decide +kernel
theorem dX10_count_18 : decode cX10_count 18 = .ok (.invokevirtual 172, 3) := by decide +kernel
theorem dX10_count_21 : decode cX10_count 21 = .ok (.goto 11, 3) := by decide +kernel
theorem dX10_count_24 : decode cX10_count 24 = .ok (.aload_n 0, 1) := by decide +kernel
theorem dX10_count_25 : decode cX10_count 25 = .ok (.getfield 24, 3) := by decide +kernel
theorem dX10_count_28 : decode cX10_count 28 = .ok (.iload_n 1, 1) := by decide +kernel
theorem dX10_count_29 : decode cX10_count 29 = .ok (.invokevirtual 173, 3) := by decide +kernel
theorem dX10_count_32 : decode cX10_count 32 = .ok (.ireturn, 1) := by decide +kernel
theorem dX10_account_0 : decode cX10_account 0 = .ok (.aload_n 0, 1) := by decide +kernel
theorem dX10_account_1 : decode cX10_account 1 = .ok (.iload_n 1, 1) := by decide +kernel
theorem dX10_account_2 : decode cX10_account 2 = .ok (.iconst 0, 1) := by decide +kernel
theorem dX10_account_3 : decode cX10_account 3 = .ok (.bipush 10, 2) := by decide +kernel
theorem dX10_account_5 : decode cX10_account 5 = .ok (.invokevirtual 168, 3) := by decide +kernel
theorem dX10_account_8 : decode cX10_account 8 = .ok (.aload_n 0, 1) := by decide +kernel
theorem dX10_account_9 : decode cX10_account 9 = .ok (.getfield 24, 3) := by decide +kernel
theorem dX10_account_12 : decode cX10_account 12 = .ok (.getfield 177, 3) := by decide +kernel
theorem dX10_account_15 : decode cX10_account 15 = .ok (.iconst 0, 1) := by decide +kernel
theorem dX10_account_16 : decode cX10_account 16 = .ok (.iload_n 1, 1) := by decide +kernel
theorem dX10_account_17 : decode cX10_account 17 = .ok (.invokevirtual 122, 3) := by decide +kernel
theorem dX10_account_20 : decode cX10_account 20 = .ok (.ireturn, 1) := by decide +kernel
theorem dX10_nameByte_0 : decode cX10_nameByte 0 = .ok (.aload_n 0, 1) := by decide +kernel
theorem dX10_nameByte_1 : decode cX10_nameByte 1 = .ok (.iload_n 1, 1) := by decide +kernel
theorem dX10_nameByte_2 : decode cX10_nameByte 2 = .ok (.invokevirtual 180, 3) := by decide +kernel
theorem dX10_nameByte_5 : decode cX10_nameByte 5 = .ok (.aload_n 0, 1) := by decide +kernel
theorem dX10_nameByte_6 : decode cX10_nameByte 6 = .ok (.getfield 24, 3) := by decide +kernel
theorem dX10_nameByte_9 : decode cX10_nameByte 9 = .ok (.iload_n 1, 1) := by decide +kernel
theorem dX10_nameByte_10 : decode cX10_nameByte 10 = .ok (.iload_n 2, 1) := by decide +kernel
theorem dX10_nameByte_11 : decode cX10_nameByte 11 = .ok (.invokevirtual 183, 3) := by decide +kernel
theorem dX10_nameByte_14 : decode cX10_nameByte 14 = .ok (.ireturn, 1) := by decide +kernel
theorem dX10_roof_0 : decode cX10_roof 0 = .ok (.aload_n 0, 1) := by decide +kernel
theorem dX10_roof_1 : decode cX10_roof 1 = .ok (.iload_n 1, 1) := by decide +kernel
theorem dX10_roof_2 : decode cX10_roof 2 = .ok (.invokevirtual 180, 3) := by decide +kernel
theorem dX10_roof_5 : decode cX10_roof 5 = .ok (.aload_n 0, 1) := by decide +kernel
theorem dX10_roof_6 : decode cX10_roof 6 = .ok (.iload_n 2, 1) := by decide +kernel
theorem dX10_roof_7 : decode cX10_roof 7 = .ok (.iconst 0, 1) := by decide +kernel
theorem dX10_roof_8 : decode cX10_roof 8 = .ok (.bipush 7, 2) := by decide +kernel
theorem dX10_roof_10 : decode cX10_roof 10 = .ok (.invokevirtual 168, 3) := by decide +kernel
theorem dX10_roof_13 : decode cX10_roof 13 = .ok (.aload_n 0, 1) := by decide +kernel
theorem dX10_roof_14 : decode cX10_roof 14 = .ok (.getfield 24, 3) := by decide +kernel
theorem dX10_roof_17 : decode cX10_roof 17 = .ok (.iload_n 1, 1) := by decide +kernel
theorem dX10_roof_18 : decode cX10_roof 18 = .ok (.iload_n 2, 1) := by decide +kernel
theorem dX10_roof_19 : decode cX10_roof 19 = .ok (.invokevirtual 186, 3) := by decide +kernel
theorem dX10_roof_22 : decode cX10_roof 22 = .ok (.ireturn, 1) := by decide +kernel
theorem dX10_way_0 : decode cX10_way 0 = .ok (.iload_n 1, 1) := by decide +kernel
theorem dX10_way_1 : decode cX10_way 1 = .ok (.ifCond .lt 14, 3) := by decide +kernel
theorem dX10_way_4 : decode cX10_way 4 = .ok (.iload_n 1, 1) := by decide +kernel
theorem dX10_way_5 : decode cX10_way 5 = .ok (.aload_n 0, 1) := by decide +kernel
theorem dX10_way_6 : decode cX10_way 6 = .ok (.getfield 24, 3) := by decide +kernel
theorem dX10_way_9 : decode cX10_way 9 = .ok (.getfield 104, 3) := by decide +kernel
theorem dX10_way_12 : decode cX10_way 12 = .ok (.if_icmp .lt 13, 3) := by decide +kernel
theorem dX10_way_15 : decode cX10_way 15 = .ok (.new 189, 3) := by decide +kernel
theorem dX10_way_18 : decode cX10_way 18 = .ok (.dup, 1) := by decide +kernel
theorem dX10_way_19 : decode cX10_way 19 = .ok (.ldc 191, 2) := by decide +kernel
theorem dX10_way_21 : decode cX10_way 21 = .ok (.invokespecial 193, 3) := by decide +kernel
theorem dX10_way_24 : decode cX10_way 24 = .ok (.athrow, 1) := by decide +kernel
theorem dX10_way_25 : decode cX10_way 25 = .ok (.aload_n 0, 1) := by decide +kernel
theorem dX10_way_26 : decode cX10_way 26 = .ok (.iload_n 2, 1) := by decide +kernel
theorem dX10_way_27 : decode cX10_way 27 = .ok (.iconst 0, 1) := by decide +kernel
theorem dX10_way_28 : decode cX10_way 28 = .ok (.iconst 2, 1) := by decide +kernel
theorem dX10_way_29 : decode cX10_way 29 = .ok (.invokevirtual 168, 3) := by decide +kernel
theorem dX10_way_32 : decode cX10_way 32 = .ok (.aload_n 0, 1) := by decide +kernel
theorem dX10_way_33 : decode cX10_way 33 = .ok (.getfield 24, 3) := by decide +kernel
theorem dX10_way_36 : decode cX10_way 36 = .ok (.getfield 195, 3) := by decide +kernel
theorem dX10_way_39 : decode cX10_way 39 = .ok (.iload_n 1, 1) := by decide +kernel
theorem dX10_way_40 : decode cX10_way 40 = .ok (.iload_n 2, 1) := by decide +kernel
theorem dX10_way_41 : decode cX10_way 41 = .ok (.invokevirtual 122, 3) := by decide +kernel
theorem dX10_way_44 : decode cX10_way 44 = .ok (.ireturn, 1) := by decide +kernel
theorem dX10_route_0 : decode cX10_route 0 = .ok (.aload_n 0, 1) := by decide +kernel
theorem dX10_route_1 : decode cX10_route 1 = .ok (.iload_n 1, 1) := by decide +kernel
theorem dX10_route_2 : decode cX10_route 2 = .ok (.invokevirtual 180, 3) := by decide +kernel
theorem dX10_route_5 : decode cX10_route 5 = .ok (.aload_n 0, 1) := by decide +kernel
theorem dX10_route_6 : decode cX10_route 6 = .ok (.iload_n 2, 1) := by decide +kernel
theorem dX10_route_7 : decode cX10_route 7 = .ok (.invokevirtual 180, 3) := by decide +kernel
theorem dX10_route_10 : decode cX10_route 10 = .ok (.aload_n 0, 1) := by decide +kernel
theorem dX10_route_11 : decode cX10_route 11 = .ok (.getfield 24, 3) := by decide +kernel
theorem dX10_route_14 : decode cX10_route 14 = .ok (.getfield 198, 3) := by decide +kernel
theorem dX10_route_17 : decode cX10_route 17 = .ok (.getfield 202, 3) := by decide +kernel
theorem dX10_route_20 : decode cX10_route 20 = .ok (.iload_n 1, 1) := by decide +kernel
theorem dX10_route_21 : decode cX10_route 21 = .ok (.iload_n 2, 1) := by decide +kernel
theorem dX10_route_22 : decode cX10_route 22 = .ok (.invokevirtual 122, 3) := by decide +kernel
theorem dX10_route_25 : decode cX10_route 25 = .ok (.istore_n 3, 1) := by decide +kernel
theorem dX10_route_26 : decode cX10_route 26 = .ok (.iload_n 3, 1) := by decide +kernel
theorem dX10_route_27 : decode cX10_route 27 = .ok (.sipush 9999, 3) := by decide +kernel
theorem dX10_route_30 : decode cX10_route 30 = .ok (.if_icmp .ge 7, 3) := by decide +kernel
theorem dX10_route_33 : decode cX10_route 33 = .ok (.iload_n 3, 1) := by decide +kernel
theorem dX10_route_34 : decode cX10_route 34 = .ok (.goto 4, 3) := by decide +kernel
theorem dX10_route_37 : decode cX10_route 37 = .ok (.iconst (-1), 1) := by decide +kernel
theorem dX10_route_38 : decode cX10_route 38 = .ok (.ireturn, 1) := by decide +kernel
theorem dX10_next_0 : decode cX10_next 0 = .ok (.aload_n 0, 1) := by decide +kernel
theorem dX10_next_1 : decode cX10_next 1 = .ok (.iload_n 1, 1) := by decide +kernel
theorem dX10_next_2 : decode cX10_next 2 = .ok (.invokevirtual 180, 3) := by decide +kernel
theorem dX10_next_5 : decode cX10_next 5 = .ok (.aload_n 0, 1) := by decide +kernel
theorem dX10_next_6 : decode cX10_next 6 = .ok (.iload_n 2, 1) := by decide +kernel
theorem dX10_next_7 : decode cX10_next 7 = .ok (.invokevirtual 180, 3) := by decide +kernel
theorem dX10_next_10 : decode cX10_next 10 = .ok (.aload_n 0, 1) := by decide +kernel
theorem dX10_next_11 : decode cX10_next 11 = .ok (.getfield 24, 3) := by decide +kernel
theorem dX10_next_14 : decode cX10_next 14 = .ok (.getfield 198, 3) := by decide +kernel
theorem dX10_next_17 : decode cX10_next 17 = .ok (.getfield 207, 3) := by decide +kernel
theorem dX10_next_20 : decode cX10_next 20 = .ok (.iload_n 1, 1) := by decide +kernel
theorem dX10_next_21 : decode cX10_next 21 = .ok (.iload_n 2, 1) := by decide +kernel
theorem dX10_next_22 : decode cX10_next 22 = .ok (.invokevirtual 122, 3) := by decide +kernel
theorem dX10_next_25 : decode cX10_next 25 = .ok (.ireturn, 1) := by decide +kernel
theorem dX10_tune_0 : decode cX10_tune 0 = .ok (.aload_n 0, 1) := by decide +kernel
theorem dX10_tune_1 : decode cX10_tune 1 = .ok (.iload_n 1, 1) := by decide +kernel
theorem dX10_tune_2 : decode cX10_tune 2 = .ok (.invokevirtual 210, 3) := by decide +kernel
theorem dX10_tune_5 : decode cX10_tune 5 = .ok (.aload_n 0, 1) := by decide +kernel
theorem dX10_tune_6 : decode cX10_tune 6 = .ok (.iload_n 2, 1) := by decide +kernel
theorem dX10_tune_7 : decode cX10_tune 7 = .ok (.iconst 0, 1) := by decide +kernel
theorem dX10_tune_8 : decode cX10_tune 8 = .ok (.bipush 11, 2) := by decide +kernel
theorem dX10_tune_10 : decode cX10_tune 10 = .ok (.invokevirtual 168, 3) := by decide +kernel
theorem dX10_tune_13 : decode cX10_tune 13 = .ok (.aload_n 0, 1) := by decide +kernel
theorem dX10_tune_14 : decode cX10_tune 14 = .ok (.getfield 24, 3) := by decide +kernel
theorem dX10_tune_17 : decode cX10_tune 17 = .ok (.iload_n 1, 1) := by decide +kernel
theorem dX10_tune_18 : decode cX10_tune 18 = .ok (.iload_n 2, 1) := by decide +kernel
theorem dX10_tune_19 : decode cX10_tune 19 = .ok (.invokevirtual 213, 3) := by decide +kernel
theorem dX10_tune_22 : decode cX10_tune 22 = .ok (.ireturn, 1) := by decide +kernel
theorem dX10_note_0 : decode cX10_note 0 = .ok (.aload_n 0, 1) := by decide +kernel
theorem dX10_note_1 : decode cX10_note 1 = .ok (.iload_n 1, 1) := by decide +kernel
theorem dX10_note_2 : decode cX10_note 2 = .ok (.invokevirtual 210, 3) := by decide +kernel
theorem dX10_note_5 : decode cX10_note 5 = .ok (.iload_n 2, 1) := by decide +kernel
theorem dX10_note_6 : decode cX10_note 6 = .ok (.ifCond .lt 19, 3) := by decide +kernel
theorem dX10_note_9 : decode cX10_note 9 = .ok (.iload_n 2, 1) := by decide +kernel
theorem dX10_note_10 : decode cX10_note 10 = .ok (.aload_n 0, 1) := by decide +kernel
theorem dX10_note_11 : decode cX10_note 11 = .ok (.getfield 24, 3) := by decide +kernel
theorem dX10_note_14 : decode cX10_note 14 = .ok (.getfield 216, 3) := by decide +kernel
theorem dX10_note_17 : decode cX10_note 17 = .ok (.iload_n 1, 1) := by decide +kernel
theorem dX10_note_18 : decode cX10_note 18 = .ok (.iconst 2, 1) := by decide +kernel
theorem dX10_note_19 : decode cX10_note 19 = .ok (.invokevirtual 122, 3) := by decide +kernel
theorem dX10_note_22 : decode cX10_note 22 = .ok (.if_icmp .lt 5, 3) := by decide +kernel
theorem dX10_note_25 : decode cX10_note 25 = .ok (.iconst (-1), 1) := by decide +kernel
theorem dX10_note_26 : decode cX10_note 26 = .ok (.ireturn, 1) := by decide +kernel
theorem dX10_note_27 : decode cX10_note 27 = .ok (.aload_n 0, 1) := by decide +kernel
theorem dX10_note_28 : decode cX10_note 28 = .ok (.getfield 24, 3) := by decide +kernel
theorem dX10_note_31 : decode cX10_note 31 = .ok (.getfield 216, 3) := by decide +kernel
theorem dX10_note_34 : decode cX10_note 34 = .ok (.iload_n 1, 1) := by decide +kernel
theorem dX10_note_35 : decode cX10_note 35 = .ok (.iload_n 3, 1) := by decide +kernel
theorem dX10_note_36 : decode cX10_note 36 = .ok (.ifCond .eq 8, 3) := by decide +kernel
theorem dX10_note_39 : decode cX10_note 39 = .ok (.bipush 10, 2) := by decide +kernel
theorem dX10_note_41 : decode cX10_note 41 = .ok (.goto 5, 3) := by decide +kernel
theorem dX10_note_44 : decode cX10_note 44 = .ok (.bipush 9, 2) := by decide +kernel
theorem dX10_note_46 : decode cX10_note 46 = .ok (.invokevirtual 122, 3) := by decide +kernel
theorem dX10_note_49 : decode cX10_note 49 = .ok (.iload_n 2, 1) := by decide +kernel
theorem dX10_note_50 : decode cX10_note 50 = .ok (.invokestatic 219, 3) := by decide +kernel
theorem dX10_note_53 : decode cX10_note 53 = .ok (.ireturn, 1) := by decide +kernel
theorem dX10_waiting_0 : decode cX10_waiting 0 = .ok (.aload_n 0, 1) := by decide +kernel
theorem dX10_waiting_1 : decode cX10_waiting 1 = .ok (.iload_n 1, 1) := by decide +kernel
theorem dX10_waiting_2 : decode cX10_waiting 2 = .ok (.invokevirtual 180, 3) := by decide +kernel
theorem dX10_waiting_5 : decode cX10_waiting 5 = .ok (.aload_n 0, 1) := by decide +kernel
theorem dX10_waiting_6 : decode cX10_waiting 6 = .ok (.getfield 24, 3) := by decide +kernel
theorem dX10_waiting_9 : decode cX10_waiting 9 = .ok (.iload_n 1, 1) := by decide +kernel
theorem dX10_waiting_10 : decode cX10_waiting 10 = .ok (.iload_n 2, 1) := by decide +kernel
theorem dX10_waiting_11 : decode cX10_waiting 11 = .ok (.invokevirtual 222, 3) := by decide +kernel
theorem dX10_waiting_14 : decode cX10_waiting 14 = .ok (.ireturn, 1) := by decide +kernel
theorem dX10_why_0 : decode cX10_why 0 = .ok (.aload_n 0, 1) := by decide +kernel
theorem dX10_why_1 : decode cX10_why 1 = .ok (.iload_n 1, 1) := by decide +kernel
theorem dX10_why_2 : decode cX10_why 2 = .ok (.invokevirtual 210, 3) := by decide +kernel
theorem dX10_why_5 : decode cX10_why 5 = .ok (.aload_n 0, 1) := by decide +kernel
theorem dX10_why_6 : decode cX10_why 6 = .ok (.iload_n 2, 1) := by decide +kernel
theorem dX10_why_7 : decode cX10_why 7 = .ok (.iconst 0, 1) := by decide +kernel
theorem dX10_why_8 : decode cX10_why 8 = .ok (.iconst 1, 1) := by decide +kernel
theorem dX10_why_9 : decode cX10_why 9 = .ok (.invokevirtual 168, 3) := by decide +kernel
theorem dX10_why_12 : decode cX10_why 12 = .ok (.aload_n 0, 1) := by decide +kernel
theorem dX10_why_13 : decode cX10_why 13 = .ok (.getfield 24, 3) := by decide +kernel
theorem dX10_why_16 : decode cX10_why 16 = .ok (.iload_n 1, 1) := by decide +kernel
theorem dX10_why_17 : decode cX10_why 17 = .ok (.invokestatic 225, 3) := by decide +kernel
theorem dX10_why_20 : decode cX10_why 20 = .ok (.istore_n 3, 1) := by decide +kernel
theorem dX10_why_21 : decode cX10_why 21 = .ok (.iload_n 2, 1) := by decide +kernel
theorem dX10_why_22 : decode cX10_why 22 = .ok (.iconst 1, 1) := by decide +kernel
theorem dX10_why_23 : decode cX10_why 23 = .ok (.if_icmp .ne 7, 3) := by decide +kernel
theorem dX10_why_26 : decode cX10_why 26 = .ok (.iload_n 3, 1) := by decide +kernel
theorem dX10_why_27 : decode cX10_why 27 = .ok (.goto 7, 3) := by decide +kernel
theorem dX10_why_30 : decode cX10_why 30 = .ok (.iload_n 3, 1) := by decide +kernel
theorem dX10_why_31 : decode cX10_why 31 = .ok (.bipush 100, 2) := by decide +kernel
theorem dX10_why_33 : decode cX10_why 33 = .ok (.idiv, 1) := by decide +kernel
theorem dX10_why_34 : decode cX10_why 34 = .ok (.ireturn, 1) := by decide +kernel
theorem dX10_costOf_0 : decode cX10_costOf 0 = .ok (.aload_n 0, 1) := by decide +kernel
theorem dX10_costOf_1 : decode cX10_costOf 1 = .ok (.iload_n 1, 1) := by decide +kernel
theorem dX10_costOf_2 : decode cX10_costOf 2 = .ok (.invokevirtual 180, 3) := by decide +kernel
theorem dX10_costOf_5 : decode cX10_costOf 5 = .ok (.aload_n 0, 1) := by decide +kernel
theorem dX10_costOf_6 : decode cX10_costOf 6 = .ok (.iload_n 2, 1) := by decide +kernel
theorem dX10_costOf_7 : decode cX10_costOf 7 = .ok (.invokevirtual 180, 3) := by decide +kernel
theorem dX10_costOf_10 : decode cX10_costOf 10 = .ok (.aload_n 0, 1) := by decide +kernel
theorem dX10_costOf_11 : decode cX10_costOf 11 = .ok (.iload_n 3, 1) := by decide +kernel
theorem dX10_costOf_12 : decode cX10_costOf 12 = .ok (.iconst 1, 1) := by decide +kernel
theorem dX10_costOf_13 : decode cX10_costOf 13 = .ok (.bipush 8, 2) := by decide +kernel
theorem dX10_costOf_15 : decode cX10_costOf 15 = .ok (.invokevirtual 168, 3) := by decide +kernel
theorem dX10_costOf_18 : decode cX10_costOf 18 = .ok (.aload_n 0, 1) := by decide +kernel
theorem dX10_costOf_19 : decode cX10_costOf 19 = .ok (.getfield 24, 3) := by decide +kernel
theorem dX10_costOf_22 : decode cX10_costOf 22 = .ok (.iload_n 1, 1) := by decide +kernel
theorem dX10_costOf_23 : decode cX10_costOf 23 = .ok (.iload_n 2, 1) := by decide +kernel
theorem dX10_costOf_24 : decode cX10_costOf 24 = .ok (.iload_n 3, 1) := by decide +kernel
theorem dX10_costOf_25 : decode cX10_costOf 25 = .ok (.invokestatic 231, 3) := by decide +kernel
theorem dX10_costOf_28 : decode cX10_costOf 28 = .ok (.ireturn, 1) := by decide +kernel
theorem dX10_wrongOn_0 : decode cX10_wrongOn 0 = .ok (.aload_n 0, 1) := by decide +kernel
theorem dX10_wrongOn_1 : decode cX10_wrongOn 1 = .ok (.iload_n 1, 1) := by decide +kernel
theorem dX10_wrongOn_2 : decode cX10_wrongOn 2 = .ok (.invokevirtual 180, 3) := by decide +kernel
theorem dX10_wrongOn_5 : decode cX10_wrongOn 5 = .ok (.aload_n 0, 1) := by decide +kernel
theorem dX10_wrongOn_6 : decode cX10_wrongOn 6 = .ok (.iload_n 2, 1) := by decide +kernel
theorem dX10_wrongOn_7 : decode cX10_wrongOn 7 = .ok (.invokevirtual 180, 3) := by decide +kernel
theorem dX10_wrongOn_10 : decode cX10_wrongOn 10 = .ok (.aload_n 0, 1) := by decide +kernel
theorem dX10_wrongOn_11 : decode cX10_wrongOn 11 = .ok (.iload_n 3, 1) := by decide +kernel
theorem dX10_wrongOn_12 : decode cX10_wrongOn 12 = .ok (.iconst 1, 1) := by decide +kernel
theorem dX10_wrongOn_13 : decode cX10_wrongOn 13 = .ok (.bipush 8, 2) := by decide +kernel
theorem dX10_wrongOn_15 : decode cX10_wrongOn 15 = .ok (.invokevirtual 168, 3) := by decide +kernel
theorem dX10_wrongOn_18 : decode cX10_wrongOn 18 = .ok (.aload_n 0, 1) := by decide +kernel
theorem dX10_wrongOn_19 : decode cX10_wrongOn 19 = .ok (.getfield 24, 3) := by decide +kernel
theorem dX10_wrongOn_22 : decode cX10_wrongOn 22 = .ok (.iload_n 1, 1) := by decide +kernel
theorem dX10_wrongOn_23 : decode cX10_wrongOn 23 = .ok (.iload_n 2, 1) := by decide +kernel
theorem dX10_wrongOn_24 : decode cX10_wrongOn 24 = .ok (.iload_n 3, 1) := by decide +kernel
theorem dX10_wrongOn_25 : decode cX10_wrongOn 25 = .ok (.aload_n 0, 1) := by decide +kernel
theorem dX10_wrongOn_26 : decode cX10_wrongOn 26 = .ok (.getfield 24, 3) := by decide +kernel
theorem dX10_wrongOn_29 : decode cX10_wrongOn 29 = .ok (.bipush 8, 2) := by decide +kernel
theorem dX10_wrongOn_31 : decode cX10_wrongOn 31 = .ok (.invokevirtual 235, 3) := by decide +kernel
theorem dX10_wrongOn_34 : decode cX10_wrongOn 34 = .ok (.invokestatic 238, 3) := by decide +kernel
theorem dX10_wrongOn_37 : decode cX10_wrongOn 37 = .ok (.ireturn, 1) := by decide +kernel
theorem dX10_calmest_0 : decode cX10_calmest 0 = .ok (.aload_n 0, 1) := by decide +kernel
theorem dX10_calmest_1 : decode cX10_calmest 1 = .ok (.iload_n 1, 1) := by decide +kernel
theorem dX10_calmest_2 : decode cX10_calmest 2 = .ok (.invokevirtual 180, 3) := by decide +kernel
theorem dX10_calmest_5 : decode cX10_calmest 5 = .ok (.aload_n 0, 1) := by decide +kernel
theorem dX10_calmest_6 : decode cX10_calmest 6 = .ok (.iload_n 2, 1) := by decide +kernel
theorem dX10_calmest_7 : decode cX10_calmest 7 = .ok (.invokevirtual 180, 3) := by decide +kernel
theorem dX10_calmest_10 : decode cX10_calmest 10 = .ok (.bipush 9, 2) := by decide +kernel
theorem dX10_calmest_12 : decode cX10_calmest 12 = .ok (.istore_n 3, 1) := by decide +kernel
theorem dX10_calmest_13 : decode cX10_calmest 13 = .ok (.iload_n 3, 1) := by decide +kernel
theorem dX10_calmest_14 : decode cX10_calmest 14 = .ok (.ifCond .lt 26, 3) := by decide +kernel
theorem dX10_calmest_17 : decode cX10_calmest 17 = .ok (.aload_n 0, 1) := by decide +kernel
theorem dX10_calmest_18 : decode cX10_calmest 18 = .ok (.getfield 24, 3) := by decide +kernel
theorem dX10_calmest_21 : decode cX10_calmest 21 = .ok (.iload_n 1, 1) := by decide +kernel
theorem dX10_calmest_22 : decode cX10_calmest 22 = .ok (.iload_n 2, 1) := by decide +kernel
theorem dX10_calmest_23 : decode cX10_calmest 23 = .ok (.bipush 8, 2) := by decide +kernel
theorem dX10_calmest_25 : decode cX10_calmest 25 = .ok (.iload_n 3, 1) := by decide +kernel
theorem dX10_calmest_26 : decode cX10_calmest 26 = .ok (.invokestatic 238, 3) := by decide +kernel
theorem dX10_calmest_29 : decode cX10_calmest 29 = .ok (.ifCond .ne 5, 3) := by decide +kernel
theorem dX10_calmest_32 : decode cX10_calmest 32 = .ok (.iload_n 3, 1) := by decide +kernel
theorem dX10_calmest_33 : decode cX10_calmest 33 = .ok (.ireturn, 1) := by decide +kernel
theorem dX10_calmest_34 : decode cX10_calmest 34 = .ok (.iinc 3 (-1), 3) := by decide +kernel
theorem dX10_calmest_37 : decode cX10_calmest 37 = .ok (.goto (-24), 3) := by decide +kernel
theorem dX10_calmest_40 : decode cX10_calmest 40 = .ok (.iconst (-1), 1) := by decide +kernel
theorem dX10_calmest_41 : decode cX10_calmest 41 = .ok (.ireturn, 1) := by decide +kernel
theorem dX10_arrivesIn_0 : decode cX10_arrivesIn 0 = .ok (.aload_n 0, 1) := by decide +kernel
theorem dX10_arrivesIn_1 : decode cX10_arrivesIn 1 = .ok (.iload_n 1, 1) := by decide +kernel
theorem dX10_arrivesIn_2 : decode cX10_arrivesIn 2 = .ok (.invokevirtual 210, 3) := by decide +kernel
theorem dX10_arrivesIn_5 : decode cX10_arrivesIn 5 = .ok (.aload_n 0, 1) := by decide +kernel
theorem dX10_arrivesIn_6 : decode cX10_arrivesIn 6 = .ok (.getfield 31, 3) := by decide +kernel
theorem dX10_arrivesIn_9 : decode cX10_arrivesIn 9 = .ok (.aload_n 0, 1) := by decide +kernel
theorem dX10_arrivesIn_10 : decode cX10_arrivesIn 10 = .ok (.getfield 24, 3) := by decide +kernel
theorem dX10_arrivesIn_13 : decode cX10_arrivesIn 13 = .ok (.invokevirtual 80, 3) := by decide +kernel
theorem dX10_arrivesIn_16 : decode cX10_arrivesIn 16 = .ok (.iconst 0, 1) := by decide +kernel
theorem dX10_arrivesIn_17 : decode cX10_arrivesIn 17 = .ok (.istore_n 2, 1) := by decide +kernel
theorem dX10_arrivesIn_18 : decode cX10_arrivesIn 18 = .ok (.iload_n 2, 1) := by decide +kernel
theorem dX10_arrivesIn_19 : decode cX10_arrivesIn 19 = .ok (.sipush 200, 3) := by decide +kernel
theorem dX10_arrivesIn_22 : decode cX10_arrivesIn 22 = .ok (.if_icmp .gt 44, 3) := by decide +kernel
theorem dX10_arrivesIn_25 : decode cX10_arrivesIn 25 = .ok (.aload_n 0, 1) := by decide +kernel
theorem dX10_arrivesIn_26 : decode cX10_arrivesIn 26 = .ok (.getfield 31, 3) := by decide +kernel
theorem dX10_arrivesIn_29 : decode cX10_arrivesIn 29 = .ok (.getfield 216, 3) := by decide +kernel
theorem dX10_arrivesIn_32 : decode cX10_arrivesIn 32 = .ok (.iload_n 1, 1) := by decide +kernel
theorem dX10_arrivesIn_33 : decode cX10_arrivesIn 33 = .ok (.iconst 3, 1) := by decide +kernel
theorem dX10_arrivesIn_34 : decode cX10_arrivesIn 34 = .ok (.invokevirtual 122, 3) := by decide +kernel
theorem dX10_arrivesIn_37 : decode cX10_arrivesIn 37 = .ok (.istore_n 3, 1) := by decide +kernel
theorem dX10_arrivesIn_38 : decode cX10_arrivesIn 38 = .ok (.iload_n 3, 1) := by decide +kernel
theorem dX10_arrivesIn_39 : decode cX10_arrivesIn 39 = .ok (.iconst 2, 1) := by decide +kernel
theorem dX10_arrivesIn_40 : decode cX10_arrivesIn 40 = .ok (.if_icmp .ne 5, 3) := by decide +kernel
theorem dX10_arrivesIn_43 : decode cX10_arrivesIn 43 = .ok (.iload_n 2, 1) := by decide +kernel
theorem dX10_arrivesIn_44 : decode cX10_arrivesIn 44 = .ok (.ireturn, 1) := by decide +kernel
theorem dX10_arrivesIn_45 : decode cX10_arrivesIn 45 = .ok (.iload_n 3, 1) := by decide +kernel
theorem dX10_arrivesIn_46 : decode cX10_arrivesIn 46 = .ok (.iconst 3, 1) := by decide +kernel
theorem dX10_arrivesIn_47 : decode cX10_arrivesIn 47 = .ok (.if_icmp .ne 5, 3) := by decide +kernel
theorem dX10_arrivesIn_50 : decode cX10_arrivesIn 50 = .ok (.iconst (-1), 1) := by decide +kernel
theorem dX10_arrivesIn_51 : decode cX10_arrivesIn 51 = .ok (.ireturn, 1) := by decide +kernel
theorem dX10_arrivesIn_52 : decode cX10_arrivesIn 52 = .ok (.aload_n 0, 1) := by decide +kernel
theorem dX10_arrivesIn_53 : decode cX10_arrivesIn 53 = .ok (.getfield 31, 3) := by decide +kernel
theorem dX10_arrivesIn_56 : decode cX10_arrivesIn 56 = .ok (.iconst 1, 1) := by decide +kernel
theorem dX10_arrivesIn_57 : decode cX10_arrivesIn 57 = .ok (.invokestatic 135, 3) := by decide +kernel
theorem dX10_arrivesIn_60 : decode cX10_arrivesIn 60 = .ok (.iinc 2 1, 3) := by decide +kernel
theorem dX10_arrivesIn_63 : decode cX10_arrivesIn 63 = .ok (.goto (-45), 3) := by decide +kernel
theorem dX10_arrivesIn_66 : decode cX10_arrivesIn 66 = .ok (.iconst (-1), 1) := by decide +kernel
theorem dX10_arrivesIn_67 : decode cX10_arrivesIn 67 = .ok (.ireturn, 1) := by decide +kernel
theorem dX10_growsBy_0 : decode cX10_growsBy 0 = .ok (.aload_n 0, 1) := by decide +kernel
theorem dX10_growsBy_1 : decode cX10_growsBy 1 = .ok (.iload_n 1, 1) := by decide +kernel
theorem dX10_growsBy_2 : decode cX10_growsBy 2 = .ok (.iconst 0, 1) := by decide +kernel
theorem dX10_growsBy_3 : decode cX10_growsBy 3 = .ok (.bipush 10, 2) := by decide +kernel
theorem dX10_growsBy_5 : decode cX10_growsBy 5 = .ok (.invokevirtual 168, 3) := by decide +kernel
theorem dX10_growsBy_8 : decode cX10_growsBy 8 = .ok (.aload_n 0, 1) := by decide +kernel
theorem dX10_growsBy_9 : decode cX10_growsBy 9 = .ok (.iload_n 2, 1) := by decide +kernel
theorem dX10_growsBy_10 : decode cX10_growsBy 10 = .ok (.iconst 0, 1) := by decide +kernel
theorem dX10_growsBy_11 : decode cX10_growsBy 11 = .ok (.sipush 200, 3) := by decide +kernel
theorem dX10_growsBy_14 : decode cX10_growsBy 14 = .ok (.invokevirtual 168, 3) := by decide +kernel
theorem dX10_growsBy_17 : decode cX10_growsBy 17 = .ok (.aload_n 0, 1) := by decide +kernel
theorem dX10_growsBy_18 : decode cX10_growsBy 18 = .ok (.getfield 31, 3) := by decide +kernel
theorem dX10_growsBy_21 : decode cX10_growsBy 21 = .ok (.aload_n 0, 1) := by decide +kernel
theorem dX10_growsBy_22 : decode cX10_growsBy 22 = .ok (.getfield 24, 3) := by decide +kernel
theorem dX10_growsBy_25 : decode cX10_growsBy 25 = .ok (.invokevirtual 80, 3) := by decide +kernel
theorem dX10_growsBy_28 : decode cX10_growsBy 28 = .ok (.aload_n 0, 1) := by decide +kernel
theorem dX10_growsBy_29 : decode cX10_growsBy 29 = .ok (.getfield 31, 3) := by decide +kernel
theorem dX10_growsBy_32 : decode cX10_growsBy 32 = .ok (.iload_n 2, 1) := by decide +kernel
theorem dX10_growsBy_33 : decode cX10_growsBy 33 = .ok (.invokestatic 135, 3) := by decide +kernel
theorem dX10_growsBy_36 : decode cX10_growsBy 36 = .ok (.aload_n 0, 1) := by decide +kernel
theorem dX10_growsBy_37 : decode cX10_growsBy 37 = .ok (.getfield 31, 3) := by decide +kernel
theorem dX10_growsBy_40 : decode cX10_growsBy 40 = .ok (.getfield 177, 3) := by decide +kernel
theorem dX10_growsBy_43 : decode cX10_growsBy 43 = .ok (.iconst 0, 1) := by decide +kernel
theorem dX10_growsBy_44 : decode cX10_growsBy 44 = .ok (.iload_n 1, 1) := by decide +kernel
theorem dX10_growsBy_45 : decode cX10_growsBy 45 = .ok (.invokevirtual 122, 3) := by decide +kernel
theorem dX10_growsBy_48 : decode cX10_growsBy 48 = .ok (.aload_n 0, 1) := by decide +kernel
theorem dX10_growsBy_49 : decode cX10_growsBy 49 = .ok (.getfield 24, 3) := by decide +kernel
theorem dX10_growsBy_52 : decode cX10_growsBy 52 = .ok (.getfield 177, 3) := by decide +kernel
theorem dX10_growsBy_55 : decode cX10_growsBy 55 = .ok (.iconst 0, 1) := by decide +kernel
theorem dX10_growsBy_56 : decode cX10_growsBy 56 = .ok (.iload_n 1, 1) := by decide +kernel
theorem dX10_growsBy_57 : decode cX10_growsBy 57 = .ok (.invokevirtual 122, 3) := by decide +kernel
theorem dX10_growsBy_60 : decode cX10_growsBy 60 = .ok (.isub, 1) := by decide +kernel
theorem dX10_growsBy_61 : decode cX10_growsBy 61 = .ok (.ireturn, 1) := by decide +kernel
theorem dX10_dearestWay_0 : decode cX10_dearestWay 0 = .ok (.aload_n 0, 1) := by decide +kernel
theorem dX10_dearestWay_1 : decode cX10_dearestWay 1 = .ok (.getfield 24, 3) := by decide +kernel
theorem dX10_dearestWay_4 : decode cX10_dearestWay 4 = .ok (.invokestatic 242, 3) := by decide +kernel
theorem dX10_dearestWay_7 : decode cX10_dearestWay 7 = .ok (.ireturn, 1) := by decide +kernel
theorem dX10_agree_0 : decode cX10_agree 0 = .ok (.aload_n 0, 1) := by decide +kernel
theorem dX10_agree_1 : decode cX10_agree 1 = .ok (.getfield 31, 3) := by decide +kernel
theorem dX10_agree_4 : decode cX10_agree 4 = .ok (.getfield 198, 3) := by decide +kernel
theorem dX10_agree_7 : decode cX10_agree 7 = .ok (.aload_n 0, 1) := by decide +kernel
theorem dX10_agree_8 : decode cX10_agree 8 = .ok (.getfield 24, 3) := by decide +kernel
theorem dX10_agree_11 : decode cX10_agree 11 = .ok (.invokevirtual 246, 3) := by decide +kernel
theorem dX10_agree_14 : decode cX10_agree 14 = .ok (.aload_n 0, 1) := by decide +kernel
theorem dX10_agree_15 : decode cX10_agree 15 = .ok (.getfield 24, 3) := by decide +kernel
theorem dX10_agree_18 : decode cX10_agree 18 = .ok (.getfield 198, 3) := by decide +kernel
theorem dX10_agree_21 : decode cX10_agree 21 = .ok (.aload_n 0, 1) := by decide +kernel
theorem dX10_agree_22 : decode cX10_agree 22 = .ok (.getfield 31, 3) := by decide +kernel
theorem dX10_agree_25 : decode cX10_agree 25 = .ok (.getfield 198, 3) := by decide +kernel
theorem dX10_agree_28 : decode cX10_agree 28 = .ok (.aload_n 0, 1) := by decide +kernel
theorem dX10_agree_29 : decode cX10_agree 29 = .ok (.getfield 24, 3) := by decide +kernel
theorem dX10_agree_32 : decode cX10_agree 32 = .ok (.getfield 249, 3) := by decide +kernel
theorem dX10_agree_35 : decode cX10_agree 35 = .ok (.invokevirtual 252, 3) := by decide +kernel
theorem dX10_agree_38 : decode cX10_agree 38 = .ok (.ifCond .eq 27, 3) := by decide +kernel
theorem dX10_agree_41 : decode cX10_agree 41 = .ok (.aload_n 0, 1) := by decide +kernel
theorem dX10_agree_42 : decode cX10_agree 42 = .ok (.getfield 24, 3) := by decide +kernel
theorem dX10_agree_45 : decode cX10_agree 45 = .ok (.invokestatic 256, 3) := by decide +kernel
theorem dX10_agree_48 : decode cX10_agree 48 = .ok (.ifCond .eq 17, 3) := by decide +kernel
theorem dX10_agree_51 : decode cX10_agree 51 = .ok (.aload_n 0, 1) := by decide +kernel
theorem dX10_agree_52 : decode cX10_agree 52 = .ok (.getfield 24, 3) := by decide +kernel
theorem dX10_agree_55 : decode cX10_agree 55 = .ok (.invokestatic 260, 3) := by decide +kernel
theorem dX10_agree_58 : decode cX10_agree 58 = .ok (.ifCond .eq 7, 3) := by decide +kernel
theorem dX10_agree_61 : decode cX10_agree 61 = .ok (.iconst 1, 1) := by decide +kernel
theorem dX10_agree_62 : decode cX10_agree 62 = .ok (.goto 4, 3) := by decide +kernel
theorem dX10_agree_65 : decode cX10_agree 65 = .ok (.iconst 0, 1) := by decide +kernel
theorem dX10_agree_66 : decode cX10_agree 66 = .ok (.ireturn, 1) := by decide +kernel
theorem dX10_meanPurse_0 : decode cX10_meanPurse 0 = .ok (.aload_n 0, 1) := by decide +kernel
theorem dX10_meanPurse_1 : decode cX10_meanPurse 1 = .ok (.getfield 24, 3) := by decide +kernel
theorem dX10_meanPurse_4 : decode cX10_meanPurse 4 = .ok (.getfield 249, 3) := by decide +kernel
theorem dX10_meanPurse_7 : decode cX10_meanPurse 7 = .ok (.ifCond .le 23, 3) := by decide +kernel
theorem dX10_meanPurse_10 : decode cX10_meanPurse 10 = .ok (.aload_n 0, 1) := by decide +kernel
theorem dX10_meanPurse_11 : decode cX10_meanPurse 11 = .ok (.getfield 24, 3) := by decide +kernel
theorem dX10_meanPurse_14 : decode cX10_meanPurse 14 = .ok (.invokevirtual 263, 3) := by decide +kernel
theorem dX10_meanPurse_17 : decode cX10_meanPurse 17 = .ok (.i2d, 1) := by decide +kernel
theorem dX10_meanPurse_18 : decode cX10_meanPurse 18 = .ok (.aload_n 0, 1) := by decide +kernel
theorem dX10_meanPurse_19 : decode cX10_meanPurse 19 = .ok (.getfield 24, 3) := by decide +kernel
theorem dX10_meanPurse_22 : decode cX10_meanPurse 22 = .ok (.getfield 249, 3) := by decide +kernel
theorem dX10_meanPurse_25 : decode cX10_meanPurse 25 = .ok (.i2d, 1) := by decide +kernel
theorem dX10_meanPurse_26 : decode cX10_meanPurse 26 = .ok (.ddiv, 1) := by decide +kernel
theorem dX10_meanPurse_27 : decode cX10_meanPurse 27 = .ok (.goto 4, 3) := by decide +kernel
theorem dX10_meanPurse_30 : decode cX10_meanPurse 30 = .ok (.dconst 0, 1) := by decide +kernel
theorem dX10_meanPurse_31 : decode cX10_meanPurse 31 = .ok (.dreturn, 1) := by decide +kernel
theorem dX10_rightPart_0 : decode cX10_rightPart 0 = .ok (.aload_n 0, 1) := by decide +kernel
theorem dX10_rightPart_1 : decode cX10_rightPart 1 = .ok (.getfield 24, 3) := by decide +kernel
theorem dX10_rightPart_4 : decode cX10_rightPart 4 = .ok (.getfield 177, 3) := by decide +kernel
theorem dX10_rightPart_7 : decode cX10_rightPart 7 = .ok (.iconst 0, 1) := by decide +kernel
theorem dX10_rightPart_8 : decode cX10_rightPart 8 = .ok (.iconst 5, 1) := by decide +kernel
theorem dX10_rightPart_9 : decode cX10_rightPart 9 = .ok (.invokevirtual 122, 3) := by decide +kernel
theorem dX10_rightPart_12 : decode cX10_rightPart 12 = .ok (.istore_n 1, 1) := by decide +kernel
theorem dX10_rightPart_13 : decode cX10_rightPart 13 = .ok (.aload_n 0, 1) := by decide +kernel
theorem dX10_rightPart_14 : decode cX10_rightPart 14 = .ok (.getfield 24, 3) := by decide +kernel
theorem dX10_rightPart_17 : decode cX10_rightPart 17 = .ok (.getfield 177, 3) := by decide +kernel
theorem dX10_rightPart_20 : decode cX10_rightPart 20 = .ok (.iconst 0, 1) := by decide +kernel
theorem dX10_rightPart_21 : decode cX10_rightPart 21 = .ok (.bipush 6, 2) := by decide +kernel
theorem dX10_rightPart_23 : decode cX10_rightPart 23 = .ok (.invokevirtual 122, 3) := by decide +kernel
theorem dX10_rightPart_26 : decode cX10_rightPart 26 = .ok (.istore_n 2, 1) := by decide +kernel
theorem dX10_rightPart_27 : decode cX10_rightPart 27 = .ok (.iload_n 1, 1) := by decide +kernel
theorem dX10_rightPart_28 : decode cX10_rightPart 28 = .ok (.ifCond .le 11, 3) := by decide +kernel
theorem dX10_rightPart_31 : decode cX10_rightPart 31 = .ok (.iload_n 2, 1) := by decide +kernel
theorem dX10_rightPart_32 : decode cX10_rightPart 32 = .ok (.i2f, 1) := by decide +kernel
theorem dX10_rightPart_33 : decode cX10_rightPart 33 = .ok (.iload_n 1, 1) := by decide +kernel
theorem dX10_rightPart_34 : decode cX10_rightPart 34 = .ok (.i2f, 1) := by decide +kernel
theorem dX10_rightPart_35 : decode cX10_rightPart 35 = .ok (.fdiv, 1) := by decide +kernel
theorem dX10_rightPart_36 : decode cX10_rightPart 36 = .ok (.goto 4, 3) := by decide +kernel
theorem dX10_rightPart_39 : decode cX10_rightPart 39 = .ok (.fconst 0, 1) := by decide +kernel
theorem dX10_rightPart_40 : decode cX10_rightPart 40 = .ok (.freturn, 1) := by decide +kernel
theorem dX10_send_0 : decode cX10_send 0 = .ok (.aload_n 0, 1) := by decide +kernel
theorem dX10_send_1 : decode cX10_send 1 = .ok (.iload_n 1, 1) := by decide +kernel
theorem dX10_send_2 : decode cX10_send 2 = .ok (.invokevirtual 180, 3) := by decide +kernel
theorem dX10_send_5 : decode cX10_send 5 = .ok (.aload_n 0, 1) := by decide +kernel
theorem dX10_send_6 : decode cX10_send 6 = .ok (.iload_n 2, 1) := by decide +kernel
theorem dX10_send_7 : decode cX10_send 7 = .ok (.invokevirtual 180, 3) := by decide +kernel
theorem dX10_send_10 : decode cX10_send 10 = .ok (.iload_n 1, 1) := by decide +kernel
theorem dX10_send_11 : decode cX10_send 11 = .ok (.iload_n 2, 1) := by decide +kernel
theorem dX10_send_12 : decode cX10_send 12 = .ok (.if_icmp .ne 14, 3) := by decide +kernel
theorem dX10_send_15 : decode cX10_send 15 = .ok (.new 266, 3) := by decide +kernel
theorem dX10_send_18 : decode cX10_send 18 = .ok (.dup, 1) := by decide +kernel
theorem dX10_send_19 : decode cX10_send 19 = .ok (.ldc_w 268, 3) := by decide +kernel
theorem dX10_send_22 : decode cX10_send 22 = .ok (.invokespecial 270, 3) := by decide +kernel
theorem dX10_send_25 : decode cX10_send 25 = .ok (.athrow, 1) := by decide +kernel
theorem dX10_send_26 : decode cX10_send 26 = .ok (.aload_n 0, 1) := by decide +kernel
theorem dX10_send_27 : decode cX10_send 27 = .ok (.iload_n 3, 1) := by decide +kernel
theorem dX10_send_28 : decode cX10_send 28 = .ok (.iconst 0, 1) := by decide +kernel
theorem dX10_send_29 : decode cX10_send 29 = .ok (.ldc_w 271, 3) := by decide +kernel
theorem dX10_send_32 : decode cX10_send 32 = .ok (.invokevirtual 168, 3) := by decide +kernel
theorem dX10_send_35 : decode cX10_send 35 = .ok (.iload_n 3, 1) := by decide +kernel
theorem dX10_send_36 : decode cX10_send 36 = .ok (.invokestatic 272, 3) := by decide +kernel
theorem dX10_send_39 : decode cX10_send 39 = .ok (.ifCond .ne 14, 3) := by decide +kernel
theorem dX10_send_42 : decode cX10_send 42 = .ok (.new 266, 3) := by decide +kernel
theorem dX10_send_45 : decode cX10_send 45 = .ok (.dup, 1) := by decide +kernel
theorem dX10_send_46 : decode cX10_send 46 = .ok (.ldc_w 275, 3) := by decide +kernel
theorem dX10_send_49 : decode cX10_send 49 = .ok (.invokespecial 270, 3) := by decide +kernel
theorem dX10_send_52 : decode cX10_send 52 = .ok (.athrow, 1) := by decide +kernel
theorem dX10_send_53 : decode cX10_send 53 = .ok (.aload_n 0, 1) := by decide +kernel
theorem dX10_send_54 : decode cX10_send 54 = .ok (.getfield 24, 3) := by decide +kernel
theorem dX10_send_57 : decode cX10_send 57 = .ok (.getfield 155, 3) := by decide +kernel
theorem dX10_send_60 : decode cX10_send 60 = .ok (.bipush 30, 2) := by decide +kernel
theorem dX10_send_62 : decode cX10_send 62 = .ok (.if_icmp .lt 14, 3) := by decide +kernel
theorem dX10_send_65 : decode cX10_send 65 = .ok (.new 277, 3) := by decide +kernel
theorem dX10_send_68 : decode cX10_send 68 = .ok (.dup, 1) := by decide +kernel
theorem dX10_send_69 : decode cX10_send 69 = .ok (.ldc_w 279, 3) := by decide +kernel
theorem dX10_send_72 : decode cX10_send 72 = .ok (.invokespecial 281, 3) := by decide +kernel
theorem dX10_send_75 : decode cX10_send 75 = .ok (.athrow, 1) := by decide +kernel
theorem dX10_send_76 : decode cX10_send 76 = .ok (.aload_n 0, 1) := by decide +kernel
theorem dX10_send_77 : decode cX10_send 77 = .ok (.getfield 37, 3) := by decide +kernel
theorem dX10_send_80 : decode cX10_send 80 = .ok (.aload_n 0, 1) := by decide +kernel
theorem dX10_send_81 : decode cX10_send 81 = .ok (.getfield 24, 3) := by decide +kernel
theorem dX10_send_84 : decode cX10_send 84 = .ok (.invokevirtual 109, 3) := by decide +kernel
theorem dX10_send_87 : decode cX10_send 87 = .ok (.aload_n 0, 1) := by decide +kernel
theorem dX10_send_88 : decode cX10_send 88 = .ok (.getfield 24, 3) := by decide +kernel
theorem dX10_send_91 : decode cX10_send 91 = .ok (.iload_n 1, 1) := by decide +kernel
theorem dX10_send_92 : decode cX10_send 92 = .ok (.iload_n 2, 1) := by decide +kernel
theorem dX10_send_93 : decode cX10_send 93 = .ok (.iload_n 3, 1) := by decide +kernel
theorem dX10_send_94 : decode cX10_send 94 = .ok (.invokestatic 282, 3) := by decide +kernel
theorem dX10_send_97 : decode cX10_send 97 = .ok (.iload_n 3, 1) := by decide +kernel
theorem dX10_send_98 : decode cX10_send 98 = .ok (.invokestatic 285, 3) := by decide +kernel
theorem dX10_send_101 : decode cX10_send 101 = .ok (.iconst 0, 1) := by decide +kernel
theorem dX10_send_102 : decode cX10_send 102 = .ok (.iload 4, 2) := by decide +kernel
theorem dX10_send_104 : decode cX10_send 104 = .ok (.invokevirtual 158, 3) := by decide +kernel
theorem dX10_send_107 : decode cX10_send 107 = .ok (.ireturn, 1) := by decide +kernel
theorem dX10_areDigitsNotes_0 : decode cX10_areDigitsNotes 0 = .ok (.iload_n 0, 1) := by decide +kernel
theorem dX10_areDigitsNotes_1 : decode cX10_areDigitsNotes 1 = .ok (.istore_n 1, 1) := by decide +kernel
theorem dX10_areDigitsNotes_2 : decode cX10_areDigitsNotes 2 = .ok (.iload_n 1, 1) := by decide +kernel
theorem dX10_areDigitsNotes_3 : decode cX10_areDigitsNotes 3 = .ok (.ifCond .le 22, 3) := by decide +kernel
theorem dX10_areDigitsNotes_6 : decode cX10_areDigitsNotes 6 = .ok (.iload_n 1, 1) := by decide +kernel
theorem dX10_areDigitsNotes_7 : decode cX10_areDigitsNotes 7 = .ok (.bipush 10, 2) := by decide +kernel
theorem dX10_areDigitsNotes_9 : decode cX10_areDigitsNotes 9 = .ok (.irem, 1) := by decide +kernel
theorem dX10_areDigitsNotes_10 : decode cX10_areDigitsNotes 10 = .ok (.bipush 7, 2) := by decide +kernel
theorem dX10_areDigitsNotes_12 : decode cX10_areDigitsNotes 12 = .ok (.if_icmp .le 5, 3) := by decide +kernel
theorem dX10_areDigitsNotes_15 : decode cX10_areDigitsNotes 15 = .ok (.iconst 0, 1) := by decide +kernel
theorem dX10_areDigitsNotes_16 : decode cX10_areDigitsNotes 16 = .ok (.ireturn, 1) := by decide +kernel
theorem dX10_areDigitsNotes_17 : decode cX10_areDigitsNotes 17 = .ok (.iload_n 1, 1) := by decide +kernel
theorem dX10_areDigitsNotes_18 : decode cX10_areDigitsNotes 18 = .ok (.bipush 10, 2) := by decide +kernel
theorem dX10_areDigitsNotes_20 : decode cX10_areDigitsNotes 20 = .ok (.idiv, 1) := by decide +kernel
theorem dX10_areDigitsNotes_21 : decode cX10_areDigitsNotes 21 = .ok (.istore_n 1, 1) := by decide +kernel
theorem dX10_areDigitsNotes_22 : decode cX10_areDigitsNotes 22 = .ok (.goto (-20), 3) := by decide +kernel
theorem dX10_areDigitsNotes_25 : decode cX10_areDigitsNotes 25 = .ok (.iconst 1, 1) := by decide +kernel
theorem dX10_areDigitsNotes_26 : decode cX10_areDigitsNotes 26 = .ok (.ireturn, 1) := by decide +kernel
theorem dX10_digitsOf_0 : decode cX10_digitsOf 0 = .ok (.iconst 1, 1) := by decide +kernel
theorem dX10_digitsOf_1 : decode cX10_digitsOf 1 = .ok (.istore_n 1, 1) := by decide +kernel
theorem dX10_digitsOf_2 : decode cX10_digitsOf 2 = .ok (.iload_n 0, 1) := by decide +kernel
theorem dX10_digitsOf_3 : decode cX10_digitsOf 3 = .ok (.bipush 10, 2) := by decide +kernel
theorem dX10_digitsOf_5 : decode cX10_digitsOf 5 = .ok (.idiv, 1) := by decide +kernel
theorem dX10_digitsOf_6 : decode cX10_digitsOf 6 = .ok (.istore_n 2, 1) := by decide +kernel
theorem dX10_digitsOf_7 : decode cX10_digitsOf 7 = .ok (.iload_n 2, 1) := by decide +kernel
theorem dX10_digitsOf_8 : decode cX10_digitsOf 8 = .ok (.ifCond .le 14, 3) := by decide +kernel
theorem dX10_digitsOf_11 : decode cX10_digitsOf 11 = .ok (.iinc 1 1, 3) := by decide +kernel
theorem dX10_digitsOf_14 : decode cX10_digitsOf 14 = .ok (.iload_n 2, 1) := by decide +kernel
theorem dX10_digitsOf_15 : decode cX10_digitsOf 15 = .ok (.bipush 10, 2) := by decide +kernel
theorem dX10_digitsOf_17 : decode cX10_digitsOf 17 = .ok (.idiv, 1) := by decide +kernel
theorem dX10_digitsOf_18 : decode cX10_digitsOf 18 = .ok (.istore_n 2, 1) := by decide +kernel
theorem dX10_digitsOf_19 : decode cX10_digitsOf 19 = .ok (.goto (-12), 3) := by decide +kernel
theorem dX10_digitsOf_22 : decode cX10_digitsOf 22 = .ok (.iload_n 1, 1) := by decide +kernel
theorem dX10_digitsOf_23 : decode cX10_digitsOf 23 = .ok (.ireturn, 1) := by decide +kernel
theorem dX10_notesOfDigits_0 : decode cX10_notesOfDigits 0 = .ok (.iconst 0, 1) := by decide +kernel
theorem dX10_notesOfDigits_1 : decode cX10_notesOfDigits 1 = .ok (.istore_n 1, 1) := by decide +kernel
theorem dX10_notesOfDigits_2 : decode cX10_notesOfDigits 2 = .ok (.iload_n 0, 1) := by decide +kernel
theorem dX10_notesOfDigits_3 : decode cX10_notesOfDigits 3 = .ok (.istore_n 2, 1) := by decide +kernel
theorem dX10_notesOfDigits_4 : decode cX10_notesOfDigits 4 = .ok (.iload_n 2, 1) := by decide +kernel
theorem dX10_notesOfDigits_5 : decode cX10_notesOfDigits 5 = .ok (.ifCond .le 20, 3) := by decide +kernel
theorem dX10_notesOfDigits_8 : decode cX10_notesOfDigits 8 = .ok (.iload_n 1, 1) := by decide +kernel
theorem dX10_notesOfDigits_9 : decode cX10_notesOfDigits 9 = .ok (.iconst 3, 1) := by decide +kernel
theorem dX10_notesOfDigits_10 : decode cX10_notesOfDigits 10 = .ok (.ishl, 1) := by decide +kernel
theorem dX10_notesOfDigits_11 : decode cX10_notesOfDigits 11 = .ok (.iload_n 2, 1) := by decide +kernel
theorem dX10_notesOfDigits_12 : decode cX10_notesOfDigits 12 = .ok (.bipush 10, 2) := by decide +kernel
theorem dX10_notesOfDigits_14 : decode cX10_notesOfDigits 14 = .ok (.irem, 1) := by decide +kernel
theorem dX10_notesOfDigits_15 : decode cX10_notesOfDigits 15 = .ok (.ior, 1) := by decide +kernel
theorem dX10_notesOfDigits_16 : decode cX10_notesOfDigits 16 = .ok (.istore_n 1, 1) := by decide +kernel
theorem dX10_notesOfDigits_17 : decode cX10_notesOfDigits 17 = .ok (.iload_n 2, 1) := by decide +kernel
theorem dX10_notesOfDigits_18 : decode cX10_notesOfDigits 18 = .ok (.bipush 10, 2) := by decide +kernel
theorem dX10_notesOfDigits_20 : decode cX10_notesOfDigits 20 = .ok (.idiv, 1) := by decide +kernel
theorem dX10_notesOfDigits_21 : decode cX10_notesOfDigits 21 = .ok (.istore_n 2, 1) := by decide +kernel
theorem dX10_notesOfDigits_22 : decode cX10_notesOfDigits 22 = .ok (.goto (-18), 3) := by decide +kernel
theorem dX10_notesOfDigits_25 : decode cX10_notesOfDigits 25 = .ok (.iload_n 1, 1) := by decide +kernel
theorem dX10_notesOfDigits_26 : decode cX10_notesOfDigits 26 = .ok (.ireturn, 1) := by decide +kernel
theorem dX10_noteOf_0 : decode cX10_noteOf 0 = .ok (.iload_n 0, 1) := by decide +kernel
theorem dX10_noteOf_1 : decode cX10_noteOf 1 = .ok (.iconst 3, 1) := by decide +kernel
theorem dX10_noteOf_2 : decode cX10_noteOf 2 = .ok (.iload_n 1, 1) := by decide +kernel
theorem dX10_noteOf_3 : decode cX10_noteOf 3 = .ok (.imul, 1) := by decide +kernel
theorem dX10_noteOf_4 : decode cX10_noteOf 4 = .ok (.ishr, 1) := by decide +kernel
theorem dX10_noteOf_5 : decode cX10_noteOf 5 = .ok (.bipush 7, 2) := by decide +kernel
theorem dX10_noteOf_7 : decode cX10_noteOf 7 = .ok (.iand, 1) := by decide +kernel
theorem dX10_noteOf_8 : decode cX10_noteOf 8 = .ok (.ireturn, 1) := by decide +kernel
theorem dX10_tick_0 : decode cX10_tick 0 = .ok (.aload_n 0, 1) := by decide +kernel
theorem dX10_tick_1 : decode cX10_tick 1 = .ok (.iload_n 1, 1) := by decide +kernel
theorem dX10_tick_2 : decode cX10_tick 2 = .ok (.iconst 1, 1) := by decide +kernel
theorem dX10_tick_3 : decode cX10_tick 3 = .ok (.sipush 200, 3) := by decide +kernel
theorem dX10_tick_6 : decode cX10_tick 6 = .ok (.invokevirtual 168, 3) := by decide +kernel
theorem dX10_tick_9 : decode cX10_tick 9 = .ok (.aload_n 0, 1) := by decide +kernel
theorem dX10_tick_10 : decode cX10_tick 10 = .ok (.getfield 24, 3) := by decide +kernel
theorem dX10_tick_13 : decode cX10_tick 13 = .ok (.iload_n 1, 1) := by decide +kernel
theorem dX10_tick_14 : decode cX10_tick 14 = .ok (.invokevirtual 132, 3) := by decide +kernel
theorem dX10_tick_17 : decode cX10_tick 17 = .ok (.ifCond .ne 14, 3) := by decide +kernel
theorem dX10_tick_20 : decode cX10_tick 20 = .ok (.new 277, 3) := by decide +kernel
theorem dX10_tick_23 : decode cX10_tick 23 = .ok (.dup, 1) := by decide +kernel
theorem dX10_tick_24 : decode cX10_tick 24 = .ok (.ldc_w 288, 3) := by decide +kernel
theorem dX10_tick_27 : decode cX10_tick 27 = .ok (.invokespecial 281, 3) := by decide +kernel
theorem dX10_tick_30 : decode cX10_tick 30 = .ok (.athrow, 1) := by decide +kernel
theorem dX10_tick_31 : decode cX10_tick 31 = .ok (.aload_n 0, 1) := by decide +kernel
theorem dX10_tick_32 : decode cX10_tick 32 = .ok (.getfield 37, 3) := by decide +kernel
theorem dX10_tick_35 : decode cX10_tick 35 = .ok (.aload_n 0, 1) := by decide +kernel
theorem dX10_tick_36 : decode cX10_tick 36 = .ok (.getfield 24, 3) := by decide +kernel
theorem dX10_tick_39 : decode cX10_tick 39 = .ok (.invokevirtual 109, 3) := by decide +kernel
theorem dX10_tick_42 : decode cX10_tick 42 = .ok (.aload_n 0, 1) := by decide +kernel
theorem dX10_tick_43 : decode cX10_tick 43 = .ok (.getfield 24, 3) := by decide +kernel
theorem dX10_tick_46 : decode cX10_tick 46 = .ok (.getfield 177, 3) := by decide +kernel
theorem dX10_tick_49 : decode cX10_tick 49 = .ok (.iconst 0, 1) := by decide +kernel
theorem dX10_tick_50 : decode cX10_tick 50 = .ok (.iconst 5, 1) := by decide +kernel
theorem dX10_tick_51 : decode cX10_tick 51 = .ok (.invokevirtual 122, 3) := by decide +kernel
theorem dX10_tick_54 : decode cX10_tick 54 = .ok (.istore_n 2, 1) := by decide +kernel
theorem dX10_tick_55 : decode cX10_tick 55 = .ok (.aload_n 0, 1) := by decide +kernel
theorem dX10_tick_56 : decode cX10_tick 56 = .ok (.getfield 24, 3) := by decide +kernel
theorem dX10_tick_59 : decode cX10_tick 59 = .ok (.iload_n 1, 1) := by decide +kernel
theorem dX10_tick_60 : decode cX10_tick 60 = .ok (.invokestatic 135, 3) := by decide +kernel
theorem dX10_tick_63 : decode cX10_tick 63 = .ok (.aload_n 0, 1) := by decide +kernel
theorem dX10_tick_64 : decode cX10_tick 64 = .ok (.getfield 24, 3) := by decide +kernel
theorem dX10_tick_67 : decode cX10_tick 67 = .ok (.getfield 177, 3) := by decide +kernel
theorem dX10_tick_70 : decode cX10_tick 70 = .ok (.iconst 0, 1) := by decide +kernel
theorem dX10_tick_71 : decode cX10_tick 71 = .ok (.iconst 5, 1) := by decide +kernel
theorem dX10_tick_72 : decode cX10_tick 72 = .ok (.invokevirtual 122, 3) := by decide +kernel
theorem dX10_tick_75 : decode cX10_tick 75 = .ok (.iload_n 2, 1) := by decide +kernel
theorem dX10_tick_76 : decode cX10_tick 76 = .ok (.isub, 1) := by decide +kernel
theorem dX10_tick_77 : decode cX10_tick 77 = .ok (.ireturn, 1) := by decide +kernel
theorem dX10_give_0 : decode cX10_give 0 = .ok (.aload_n 0, 1) := by decide +kernel
theorem dX10_give_1 : decode cX10_give 1 = .ok (.iload_n 1, 1) := by decide +kernel
theorem dX10_give_2 : decode cX10_give 2 = .ok (.invokevirtual 180, 3) := by decide +kernel
theorem dX10_give_5 : decode cX10_give 5 = .ok (.aload_n 0, 1) := by decide +kernel
theorem dX10_give_6 : decode cX10_give 6 = .ok (.iload_n 2, 1) := by decide +kernel
theorem dX10_give_7 : decode cX10_give 7 = .ok (.iconst 1, 1) := by decide +kernel
theorem dX10_give_8 : decode cX10_give 8 = .ok (.bipush 99, 2) := by decide +kernel
theorem dX10_give_10 : decode cX10_give 10 = .ok (.invokevirtual 168, 3) := by decide +kernel
theorem dX10_give_13 : decode cX10_give 13 = .ok (.aload_n 0, 1) := by decide +kernel
theorem dX10_give_14 : decode cX10_give 14 = .ok (.getfield 24, 3) := by decide +kernel
theorem dX10_give_17 : decode cX10_give 17 = .ok (.iload_n 1, 1) := by decide +kernel
theorem dX10_give_18 : decode cX10_give 18 = .ok (.iload_n 2, 1) := by decide +kernel
theorem dX10_give_19 : decode cX10_give 19 = .ok (.invokevirtual 141, 3) := by decide +kernel
theorem dX10_give_22 : decode cX10_give 22 = .ok (.ifCond .ne 14, 3) := by decide +kernel
theorem dX10_give_25 : decode cX10_give 25 = .ok (.new 277, 3) := by decide +kernel
theorem dX10_give_28 : decode cX10_give 28 = .ok (.dup, 1) := by decide +kernel
theorem dX10_give_29 : decode cX10_give 29 = .ok (.ldc_w 290, 3) := by decide +kernel
theorem dX10_give_32 : decode cX10_give 32 = .ok (.invokespecial 281, 3) := by decide +kernel
theorem dX10_give_35 : decode cX10_give 35 = .ok (.athrow, 1) := by decide +kernel
theorem dX10_give_36 : decode cX10_give 36 = .ok (.aload_n 0, 1) := by decide +kernel
theorem dX10_give_37 : decode cX10_give 37 = .ok (.getfield 37, 3) := by decide +kernel
theorem dX10_give_40 : decode cX10_give 40 = .ok (.aload_n 0, 1) := by decide +kernel
theorem dX10_give_41 : decode cX10_give 41 = .ok (.getfield 24, 3) := by decide +kernel
theorem dX10_give_44 : decode cX10_give 44 = .ok (.invokevirtual 109, 3) := by decide +kernel
theorem dX10_give_47 : decode cX10_give 47 = .ok (.aload_n 0, 1) := by decide +kernel
theorem dX10_give_48 : decode cX10_give 48 = .ok (.getfield 24, 3) := by decide +kernel
theorem dX10_give_51 : decode cX10_give 51 = .ok (.iload_n 1, 1) := by decide +kernel
theorem dX10_give_52 : decode cX10_give 52 = .ok (.iload_n 2, 1) := by decide +kernel
theorem dX10_give_53 : decode cX10_give 53 = .ok (.invokevirtual 145, 3) := by decide +kernel
theorem dX10_give_56 : decode cX10_give 56 = .ok (.aload_n 0, 1) := by decide +kernel
theorem dX10_give_57 : decode cX10_give 57 = .ok (.getfield 24, 3) := by decide +kernel
theorem dX10_give_60 : decode cX10_give 60 = .ok (.getfield 292, 3) := by decide +kernel
theorem dX10_give_63 : decode cX10_give 63 = .ok (.iload_n 1, 1) := by decide +kernel
theorem dX10_give_64 : decode cX10_give 64 = .ok (.iconst 3, 1) := by decide +kernel
theorem dX10_give_65 : decode cX10_give 65 = .ok (.invokevirtual 122, 3) := by decide +kernel
theorem dX10_give_68 : decode cX10_give 68 = .ok (.ireturn, 1) := by decide +kernel
theorem dX10_cut_0 : decode cX10_cut 0 = .ok (.aload_n 0, 1) := by decide +kernel
theorem dX10_cut_1 : decode cX10_cut 1 = .ok (.iload_n 1, 1) := by decide +kernel
theorem dX10_cut_2 : decode cX10_cut 2 = .ok (.invokevirtual 180, 3) := by decide +kernel
theorem dX10_cut_5 : decode cX10_cut 5 = .ok (.aload_n 0, 1) := by decide +kernel
theorem dX10_cut_6 : decode cX10_cut 6 = .ok (.iload_n 2, 1) := by decide +kernel
theorem dX10_cut_7 : decode cX10_cut 7 = .ok (.invokevirtual 180, 3) := by decide +kernel
theorem dX10_cut_10 : decode cX10_cut 10 = .ok (.aload_n 0, 1) := by decide +kernel
theorem dX10_cut_11 : decode cX10_cut 11 = .ok (.getfield 24, 3) := by decide +kernel
theorem dX10_cut_14 : decode cX10_cut 14 = .ok (.iload_n 1, 1) := by decide +kernel
theorem dX10_cut_15 : decode cX10_cut 15 = .ok (.iload_n 2, 1) := by decide +kernel
theorem dX10_cut_16 : decode cX10_cut 16 = .ok (.invokevirtual 295, 3) := by decide +kernel
theorem dX10_cut_19 : decode cX10_cut 19 = .ok (.iconst (-1), 1) := by decide +kernel
theorem dX10_cut_20 : decode cX10_cut 20 = .ok (.if_icmp .ne 14, 3) := by decide +kernel
theorem dX10_cut_23 : decode cX10_cut 23 = .ok (.new 277, 3) := by decide +kernel
theorem dX10_cut_26 : decode cX10_cut 26 = .ok (.dup, 1) := by decide +kernel
theorem dX10_cut_27 : decode cX10_cut 27 = .ok (.ldc_w 298, 3) := by decide +kernel
theorem dX10_cut_30 : decode cX10_cut 30 = .ok (.invokespecial 281, 3) := by decide +kernel
theorem dX10_cut_33 : decode cX10_cut 33 = .ok (.athrow, 1) := by decide +kernel
theorem dX10_cut_34 : decode cX10_cut 34 = .ok (.aload_n 0, 1) := by decide +kernel
theorem dX10_cut_35 : decode cX10_cut 35 = .ok (.getfield 37, 3) := by decide +kernel
theorem dX10_cut_38 : decode cX10_cut 38 = .ok (.aload_n 0, 1) := by decide +kernel
theorem dX10_cut_39 : decode cX10_cut 39 = .ok (.getfield 24, 3) := by decide +kernel
theorem dX10_cut_42 : decode cX10_cut 42 = .ok (.invokevirtual 109, 3) := by decide +kernel
theorem dX10_cut_45 : decode cX10_cut 45 = .ok (.aload_n 0, 1) := by decide +kernel
theorem dX10_cut_46 : decode cX10_cut 46 = .ok (.getfield 24, 3) := by decide +kernel
theorem dX10_cut_49 : decode cX10_cut 49 = .ok (.iload_n 1, 1) := by decide +kernel
theorem dX10_cut_50 : decode cX10_cut 50 = .ok (.iload_n 2, 1) := by decide +kernel
theorem dX10_cut_51 : decode cX10_cut 51 = .ok (.invokevirtual 149, 3) := by decide +kernel
theorem dX10_cut_54 : decode cX10_cut 54 = .ok (.pop, 1) := by decide +kernel
theorem dX10_cut_55 : decode cX10_cut 55 = .ok (.aload_n 0, 1) := by decide +kernel
theorem dX10_cut_56 : decode cX10_cut 56 = .ok (.getfield 24, 3) := by decide +kernel
theorem dX10_cut_59 : decode cX10_cut 59 = .ok (.getfield 104, 3) := by decide +kernel
theorem dX10_cut_62 : decode cX10_cut 62 = .ok (.ireturn, 1) := by decide +kernel
theorem dX10_set_0 : decode cX10_set 0 = .ok (.aload_n 0, 1) := by decide +kernel
theorem dX10_set_1 : decode cX10_set 1 = .ok (.iload_n 1, 1) := by decide +kernel
theorem dX10_set_2 : decode cX10_set 2 = .ok (.bipush 8, 2) := by decide +kernel
theorem dX10_set_4 : decode cX10_set 4 = .ok (.bipush 10, 2) := by decide +kernel
theorem dX10_set_6 : decode cX10_set 6 = .ok (.invokevirtual 168, 3) := by decide +kernel
theorem dX10_set_9 : decode cX10_set 9 = .ok (.aload_n 0, 1) := by decide +kernel
theorem dX10_set_10 : decode cX10_set 10 = .ok (.iload_n 2, 1) := by decide +kernel
theorem dX10_set_11 : decode cX10_set 11 = .ok (.iload_n 1, 1) := by decide +kernel
theorem dX10_set_12 : decode cX10_set 12 = .ok (.invokestatic 300, 3) := by decide +kernel
theorem dX10_set_15 : decode cX10_set 15 = .ok (.iload_n 1, 1) := by decide +kernel
theorem dX10_set_16 : decode cX10_set 16 = .ok (.invokestatic 303, 3) := by decide +kernel
theorem dX10_set_19 : decode cX10_set 19 = .ok (.invokevirtual 168, 3) := by decide +kernel
theorem dX10_set_22 : decode cX10_set 22 = .ok (.aload_n 0, 1) := by decide +kernel
theorem dX10_set_23 : decode cX10_set 23 = .ok (.getfield 37, 3) := by decide +kernel
theorem dX10_set_26 : decode cX10_set 26 = .ok (.aload_n 0, 1) := by decide +kernel
theorem dX10_set_27 : decode cX10_set 27 = .ok (.getfield 24, 3) := by decide +kernel
theorem dX10_set_30 : decode cX10_set 30 = .ok (.invokevirtual 109, 3) := by decide +kernel
theorem dX10_set_33 : decode cX10_set 33 = .ok (.aload_n 0, 1) := by decide +kernel
theorem dX10_set_34 : decode cX10_set 34 = .ok (.getfield 24, 3) := by decide +kernel
theorem dX10_set_37 : decode cX10_set 37 = .ok (.iload_n 1, 1) := by decide +kernel
theorem dX10_set_38 : decode cX10_set 38 = .ok (.invokevirtual 235, 3) := by decide +kernel
theorem dX10_set_41 : decode cX10_set 41 = .ok (.istore_n 3, 1) := by decide +kernel
theorem dX10_set_42 : decode cX10_set 42 = .ok (.aload_n 0, 1) := by decide +kernel
theorem dX10_set_43 : decode cX10_set 43 = .ok (.getfield 24, 3) := by decide +kernel
theorem dX10_set_46 : decode cX10_set 46 = .ok (.iload_n 1, 1) := by decide +kernel
theorem dX10_set_47 : decode cX10_set 47 = .ok (.iload_n 2, 1) := by decide +kernel
theorem dX10_set_48 : decode cX10_set 48 = .ok (.invokevirtual 152, 3) := by decide +kernel
theorem dX10_set_51 : decode cX10_set 51 = .ok (.iload_n 3, 1) := by decide +kernel
theorem dX10_set_52 : decode cX10_set 52 = .ok (.ireturn, 1) := by decide +kernel
theorem dX10_undo_0 : decode cX10_undo 0 = .ok (.aload_n 0, 1) := by decide +kernel
theorem dX10_undo_1 : decode cX10_undo 1 = .ok (.getfield 37, 3) := by decide +kernel
theorem dX10_undo_4 : decode cX10_undo 4 = .ok (.invokevirtual 172, 3) := by decide +kernel
theorem dX10_undo_7 : decode cX10_undo 7 = .ok (.ifCond .ne 14, 3) := by decide +kernel
theorem dX10_undo_10 : decode cX10_undo 10 = .ok (.new 306, 3) := by decide +kernel
theorem dX10_undo_13 : decode cX10_undo 13 = .ok (.dup, 1) := by decide +kernel
theorem dX10_undo_14 : decode cX10_undo 14 = .ok (.ldc_w 308, 3) := by decide +kernel
theorem dX10_undo_17 : decode cX10_undo 17 = .ok (.invokespecial 310, 3) := by decide +kernel
theorem dX10_undo_20 : decode cX10_undo 20 = .ok (.athrow, 1) := by decide +kernel
theorem dX10_undo_21 : decode cX10_undo 21 = .ok (.aload_n 0, 1) := by decide +kernel
theorem dX10_undo_22 : decode cX10_undo 22 = .ok (.getfield 37, 3) := by decide +kernel
theorem dX10_undo_25 : decode cX10_undo 25 = .ok (.aload_n 0, 1) := by decide +kernel
theorem dX10_undo_26 : decode cX10_undo 26 = .ok (.getfield 24, 3) := by decide +kernel
theorem dX10_undo_29 : decode cX10_undo 29 = .ok (.invokevirtual 311, 3) := by decide +kernel
theorem dX10_undo_32 : decode cX10_undo 32 = .ok (.aload_n 0, 1) := by decide +kernel
theorem dX10_undo_33 : decode cX10_undo 33 = .ok (.getfield 37, 3) := by decide +kernel
theorem dX10_undo_36 : decode cX10_undo 36 = .ok (.invokevirtual 172, 3) := by decide +kernel
theorem dX10_undo_39 : decode cX10_undo 39 = .ok (.ireturn, 1) := by decide +kernel
theorem dX10_printRoofs_0 : decode cX10_printRoofs 0 = .ok (.aload_n 0, 1) := by decide +kernel
theorem dX10_printRoofs_1 : decode cX10_printRoofs 1 = .ok (.getfield 18, 3) := by decide +kernel
theorem dX10_printRoofs_4 : decode cX10_printRoofs 4 = .ok (.invokevirtual 84, 3) := by decide +kernel
theorem dX10_printRoofs_7 : decode cX10_printRoofs 7 = .ok (.iconst 0, 1) := by decide +kernel
theorem dX10_printRoofs_8 : decode cX10_printRoofs 8 = .ok (.istore_n 1, 1) := by decide +kernel
theorem dX10_printRoofs_9 : decode cX10_printRoofs 9 = .ok (.iload_n 1, 1) := by decide +kernel
theorem dX10_printRoofs_10 : decode cX10_printRoofs 10 = .ok (.aload_n 0, 1) := by decide +kernel
theorem dX10_printRoofs_11 : decode cX10_printRoofs 11 = .ok (.getfield 24, 3) := by decide +kernel
theorem dX10_printRoofs_14 : decode cX10_printRoofs 14 = .ok (.getfield 249, 3) := by decide +kernel
theorem dX10_printRoofs_17 : decode cX10_printRoofs 17 = .ok (.if_icmp .ge 112, 3) := by decide +kernel
theorem dX10_printRoofs_20 : decode cX10_printRoofs 20 = .ok (.iload_n 1, 1) := by decide +kernel
theorem dX10_printRoofs_21 : decode cX10_printRoofs 21 = .ok (.ifCond .le 12, 3) := by decide +kernel
theorem dX10_printRoofs_24 : decode cX10_printRoofs 24 = .ok (.aload_n 0, 1) := by decide +kernel
theorem dX10_printRoofs_25 : decode cX10_printRoofs 25 = .ok (.getfield 18, 3) := by decide +kernel
theorem dX10_printRoofs_28 : decode cX10_printRoofs 28 = .ok (.bipush 32, 2) := by decide +kernel
theorem dX10_printRoofs_30 : decode cX10_printRoofs 30 = .ok (.invokevirtual 94, 3) := by decide +kernel
theorem dX10_printRoofs_33 : decode cX10_printRoofs 33 = .ok (.aload_n 0, 1) := by decide +kernel
theorem dX10_printRoofs_34 : decode cX10_printRoofs 34 = .ok (.iload_n 1, 1) := by decide +kernel
theorem dX10_printRoofs_35 : decode cX10_printRoofs 35 = .ok (.invokevirtual 314, 3) := by decide +kernel
theorem dX10_printRoofs_38 : decode cX10_printRoofs 38 = .ok (.aload_n 0, 1) := by decide +kernel
theorem dX10_printRoofs_39 : decode cX10_printRoofs 39 = .ok (.getfield 18, 3) := by decide +kernel
theorem dX10_printRoofs_42 : decode cX10_printRoofs 42 = .ok (.bipush 58, 2) := by decide +kernel
theorem dX10_printRoofs_44 : decode cX10_printRoofs 44 = .ok (.invokevirtual 94, 3) := by decide +kernel
theorem dX10_printRoofs_47 : decode cX10_printRoofs 47 = .ok (.aload_n 0, 1) := by decide +kernel
theorem dX10_printRoofs_48 : decode cX10_printRoofs 48 = .ok (.getfield 18, 3) := by decide +kernel
theorem dX10_printRoofs_51 : decode cX10_printRoofs 51 = .ok (.aload_n 0, 1) := by decide +kernel
theorem dX10_printRoofs_52 : decode cX10_printRoofs 52 = .ok (.getfield 24, 3) := by decide +kernel
theorem dX10_printRoofs_55 : decode cX10_printRoofs 55 = .ok (.getfield 292, 3) := by decide +kernel
theorem dX10_printRoofs_58 : decode cX10_printRoofs 58 = .ok (.iload_n 1, 1) := by decide +kernel
theorem dX10_printRoofs_59 : decode cX10_printRoofs 59 = .ok (.iconst 3, 1) := by decide +kernel
theorem dX10_printRoofs_60 : decode cX10_printRoofs 60 = .ok (.invokevirtual 122, 3) := by decide +kernel
theorem dX10_printRoofs_63 : decode cX10_printRoofs 63 = .ok (.invokevirtual 317, 3) := by decide +kernel
theorem dX10_printRoofs_66 : decode cX10_printRoofs 66 = .ok (.aload_n 0, 1) := by decide +kernel
theorem dX10_printRoofs_67 : decode cX10_printRoofs 67 = .ok (.getfield 24, 3) := by decide +kernel
theorem dX10_printRoofs_70 : decode cX10_printRoofs 70 = .ok (.iload_n 1, 1) := by decide +kernel
theorem dX10_printRoofs_71 : decode cX10_printRoofs 71 = .ok (.aload_n 0, 1) := by decide +kernel
theorem dX10_printRoofs_72 : decode cX10_printRoofs 72 = .ok (.getfield 24, 3) := by decide +kernel
theorem dX10_printRoofs_75 : decode cX10_printRoofs 75 = .ok (.getfield 320, 3) := by decide +kernel
theorem dX10_printRoofs_78 : decode cX10_printRoofs 78 = .ok (.invokevirtual 323, 3) := by decide +kernel
theorem dX10_printRoofs_81 : decode cX10_printRoofs 81 = .ok (.ifCond .eq 12, 3) := by decide +kernel
theorem dX10_printRoofs_84 : decode cX10_printRoofs 84 = .ok (.aload_n 0, 1) := by decide +kernel
theorem dX10_printRoofs_85 : decode cX10_printRoofs 85 = .ok (.getfield 18, 3) := by decide +kernel
theorem dX10_printRoofs_88 : decode cX10_printRoofs 88 = .ok (.bipush 33, 2) := by decide +kernel
theorem dX10_printRoofs_90 : decode cX10_printRoofs 90 = .ok (.invokevirtual 94, 3) := by decide +kernel
theorem dX10_printRoofs_93 : decode cX10_printRoofs 93 = .ok (.aload_n 0, 1) := by decide +kernel
theorem dX10_printRoofs_94 : decode cX10_printRoofs 94 = .ok (.getfield 24, 3) := by decide +kernel
theorem dX10_printRoofs_97 : decode cX10_printRoofs 97 = .ok (.iload_n 1, 1) := by decide +kernel
theorem dX10_printRoofs_98 : decode cX10_printRoofs 98 = .ok (.invokevirtual 326, 3) := by decide +kernel
theorem dX10_printRoofs_101 : decode cX10_printRoofs 101 = .ok (.istore_n 2, 1) := by decide +kernel
theorem dX10_printRoofs_102 : decode cX10_printRoofs 102 = .ok (.iload_n 2, 1) := by decide +kernel
theorem dX10_printRoofs_103 : decode cX10_printRoofs 103 = .ok (.ifCond .le 20, 3) := by decide +kernel
theorem dX10_printRoofs_106 : decode cX10_printRoofs 106 = .ok (.aload_n 0, 1) := by decide +kernel
theorem dX10_printRoofs_107 : decode cX10_printRoofs 107 = .ok (.getfield 18, 3) := by decide +kernel
theorem dX10_printRoofs_110 : decode cX10_printRoofs 110 = .ok (.bipush 47, 2) := by decide +kernel
theorem dX10_printRoofs_112 : decode cX10_printRoofs 112 = .ok (.invokevirtual 94, 3) := by decide +kernel
theorem dX10_printRoofs_115 : decode cX10_printRoofs 115 = .ok (.aload_n 0, 1) := by decide +kernel
theorem dX10_printRoofs_116 : decode cX10_printRoofs 116 = .ok (.getfield 18, 3) := by decide +kernel
theorem dX10_printRoofs_119 : decode cX10_printRoofs 119 = .ok (.iload_n 2, 1) := by decide +kernel
theorem dX10_printRoofs_120 : decode cX10_printRoofs 120 = .ok (.invokevirtual 317, 3) := by decide +kernel
theorem dX10_printRoofs_123 : decode cX10_printRoofs 123 = .ok (.iinc 1 1, 3) := by decide +kernel
theorem dX10_printRoofs_126 : decode cX10_printRoofs 126 = .ok (.goto (-117), 3) := by decide +kernel
theorem dX10_printRoofs_129 : decode cX10_printRoofs 129 = .ok (.aload_n 0, 1) := by decide +kernel
theorem dX10_printRoofs_130 : decode cX10_printRoofs 130 = .ok (.getfield 18, 3) := by decide +kernel
theorem dX10_printRoofs_133 : decode cX10_printRoofs 133 = .ok (.invokevirtual 87, 3) := by decide +kernel
theorem dX10_printRoofs_136 : decode cX10_printRoofs 136 = .ok (.ireturn, 1) := by decide +kernel
theorem dX10_writeName_0 : decode cX10_writeName 0 = .ok (.iconst 0, 1) := by decide +kernel
theorem dX10_writeName_1 : decode cX10_writeName 1 = .ok (.istore_n 2, 1) := by decide +kernel
theorem dX10_writeName_2 : decode cX10_writeName 2 = .ok (.iload_n 2, 1) := by decide +kernel
theorem dX10_writeName_3 : decode cX10_writeName 3 = .ok (.bipush 6, 2) := by decide +kernel
theorem dX10_writeName_5 : decode cX10_writeName 5 = .ok (.if_icmp .ge 32, 3) := by decide +kernel
theorem dX10_writeName_8 : decode cX10_writeName 8 = .ok (.aload_n 0, 1) := by decide +kernel
theorem dX10_writeName_9 : decode cX10_writeName 9 = .ok (.getfield 24, 3) := by decide +kernel
theorem dX10_writeName_12 : decode cX10_writeName 12 = .ok (.iload_n 1, 1) := by decide +kernel
theorem dX10_writeName_13 : decode cX10_writeName 13 = .ok (.iload_n 2, 1) := by decide +kernel
theorem dX10_writeName_14 : decode cX10_writeName 14 = .ok (.invokevirtual 183, 3) := by decide +kernel
theorem dX10_writeName_17 : decode cX10_writeName 17 = .ok (.istore_n 3, 1) := by decide +kernel
theorem dX10_writeName_18 : decode cX10_writeName 18 = .ok (.iload_n 3, 1) := by decide +kernel
theorem dX10_writeName_19 : decode cX10_writeName 19 = .ok (.iconst (-1), 1) := by decide +kernel
theorem dX10_writeName_20 : decode cX10_writeName 20 = .ok (.if_icmp .eq 11, 3) := by decide +kernel
theorem dX10_writeName_23 : decode cX10_writeName 23 = .ok (.aload_n 0, 1) := by decide +kernel
theorem dX10_writeName_24 : decode cX10_writeName 24 = .ok (.getfield 18, 3) := by decide +kernel
theorem dX10_writeName_27 : decode cX10_writeName 27 = .ok (.iload_n 3, 1) := by decide +kernel
theorem dX10_writeName_28 : decode cX10_writeName 28 = .ok (.invokevirtual 94, 3) := by decide +kernel
theorem dX10_writeName_31 : decode cX10_writeName 31 = .ok (.iinc 2 1, 3) := by decide +kernel
theorem dX10_writeName_34 : decode cX10_writeName 34 = .ok (.goto (-32), 3) := by decide +kernel
theorem dX10_writeName_37 : decode cX10_writeName 37 = .ok (.return_, 1) := by decide +kernel
theorem dX10_printTune_0 : decode cX10_printTune 0 = .ok (.aload_n 0, 1) := by decide +kernel
theorem dX10_printTune_1 : decode cX10_printTune 1 = .ok (.iload_n 1, 1) := by decide +kernel
theorem dX10_printTune_2 : decode cX10_printTune 2 = .ok (.invokevirtual 210, 3) := by decide +kernel
theorem dX10_printTune_5 : decode cX10_printTune 5 = .ok (.aload_n 0, 1) := by decide +kernel
theorem dX10_printTune_6 : decode cX10_printTune 6 = .ok (.getfield 18, 3) := by decide +kernel
theorem dX10_printTune_9 : decode cX10_printTune 9 = .ok (.invokevirtual 84, 3) := by decide +kernel
theorem dX10_printTune_12 : decode cX10_printTune 12 = .ok (.aload_n 0, 1) := by decide +kernel
theorem dX10_printTune_13 : decode cX10_printTune 13 = .ok (.getfield 24, 3) := by decide +kernel
theorem dX10_printTune_16 : decode cX10_printTune 16 = .ok (.getfield 216, 3) := by decide +kernel
theorem dX10_printTune_19 : decode cX10_printTune 19 = .ok (.iload_n 1, 1) := by decide +kernel
theorem dX10_printTune_20 : decode cX10_printTune 20 = .ok (.iconst 2, 1) := by decide +kernel
theorem dX10_printTune_21 : decode cX10_printTune 21 = .ok (.invokevirtual 122, 3) := by decide +kernel
theorem dX10_printTune_24 : decode cX10_printTune 24 = .ok (.istore_n 2, 1) := by decide +kernel
theorem dX10_printTune_25 : decode cX10_printTune 25 = .ok (.aload_n 0, 1) := by decide +kernel
theorem dX10_printTune_26 : decode cX10_printTune 26 = .ok (.getfield 24, 3) := by decide +kernel
theorem dX10_printTune_29 : decode cX10_printTune 29 = .ok (.getfield 216, 3) := by decide +kernel
theorem dX10_printTune_32 : decode cX10_printTune 32 = .ok (.iload_n 1, 1) := by decide +kernel
theorem dX10_printTune_33 : decode cX10_printTune 33 = .ok (.bipush 9, 2) := by decide +kernel
theorem dX10_printTune_35 : decode cX10_printTune 35 = .ok (.invokevirtual 122, 3) := by decide +kernel
theorem dX10_printTune_38 : decode cX10_printTune 38 = .ok (.istore_n 3, 1) := by decide +kernel
theorem dX10_printTune_39 : decode cX10_printTune 39 = .ok (.aload_n 0, 1) := by decide +kernel
theorem dX10_printTune_40 : decode cX10_printTune 40 = .ok (.getfield 24, 3) := by decide +kernel
theorem dX10_printTune_43 : decode cX10_printTune 43 = .ok (.getfield 216, 3) := by decide +kernel
theorem dX10_printTune_46 : decode cX10_printTune 46 = .ok (.iload_n 1, 1) := by decide +kernel
theorem dX10_printTune_47 : decode cX10_printTune 47 = .ok (.bipush 10, 2) := by decide +kernel
theorem dX10_printTune_49 : decode cX10_printTune 49 = .ok (.invokevirtual 122, 3) := by decide +kernel
theorem dX10_printTune_52 : decode cX10_printTune 52 = .ok (.istore 4, 2) := by decide +kernel
theorem dX10_printTune_54 : decode cX10_printTune 54 = .ok (.iconst 0, 1) := by decide +kernel
theorem dX10_printTune_55 : decode cX10_printTune 55 = .ok (.istore 5, 2) := by decide +kernel
theorem dX10_printTune_57 : decode cX10_printTune 57 = .ok (.iload 5, 2) := by decide +kernel
theorem dX10_printTune_59 : decode cX10_printTune 59 = .ok (.iload_n 2, 1) := by decide +kernel
theorem dX10_printTune_60 : decode cX10_printTune 60 = .ok (.if_icmp .ge 48, 3) := by decide +kernel
theorem dX10_printTune_63 : decode cX10_printTune 63 = .ok (.aload_n 0, 1) := by decide +kernel
theorem dX10_printTune_64 : decode cX10_printTune 64 = .ok (.getfield 18, 3) := by decide +kernel
theorem dX10_printTune_67 : decode cX10_printTune 67 = .ok (.iload 4, 2) := by decide +kernel
theorem dX10_printTune_69 : decode cX10_printTune 69 = .ok (.iload 5, 2) := by decide +kernel
theorem dX10_printTune_71 : decode cX10_printTune 71 = .ok (.invokestatic 219, 3) := by decide +kernel
theorem dX10_printTune_74 : decode cX10_printTune 74 = .ok (.invokevirtual 317, 3) := by decide +kernel
theorem dX10_printTune_77 : decode cX10_printTune 77 = .ok (.iload 4, 2) := by decide +kernel
theorem dX10_printTune_79 : decode cX10_printTune 79 = .ok (.iload 5, 2) := by decide +kernel
theorem dX10_printTune_81 : decode cX10_printTune 81 = .ok (.invokestatic 219, 3) := by decide +kernel
theorem dX10_printTune_84 : decode cX10_printTune 84 = .ok (.iload_n 3, 1) := by decide +kernel
theorem dX10_printTune_85 : decode cX10_printTune 85 = .ok (.iload 5, 2) := by decide +kernel
theorem dX10_printTune_87 : decode cX10_printTune 87 = .ok (.invokestatic 219, 3) := by decide +kernel
theorem dX10_printTune_90 : decode cX10_printTune 90 = .ok (.if_icmp .eq 12, 3) := by decide +kernel
theorem dX10_printTune_93 : decode cX10_printTune 93 = .ok (.aload_n 0, 1) := by decide +kernel
theorem dX10_printTune_94 : decode cX10_printTune 94 = .ok (.getfield 18, 3) := by decide +kernel
theorem dX10_printTune_97 : decode cX10_printTune 97 = .ok (.bipush 39, 2) := by decide +kernel
theorem dX10_printTune_99 : decode cX10_printTune 99 = .ok (.invokevirtual 94, 3) := by decide +kernel
theorem dX10_printTune_102 : decode cX10_printTune 102 = .ok (.iinc 5 1, 3) := by decide +kernel
theorem dX10_printTune_105 : decode cX10_printTune 105 = .ok (.goto (-48), 3) := by decide +kernel
theorem dX10_printTune_108 : decode cX10_printTune 108 = .ok (.aload_n 0, 1) := by decide +kernel
theorem dX10_printTune_109 : decode cX10_printTune 109 = .ok (.getfield 18, 3) := by decide +kernel
theorem dX10_printTune_112 : decode cX10_printTune 112 = .ok (.bipush 62, 2) := by decide +kernel
theorem dX10_printTune_114 : decode cX10_printTune 114 = .ok (.invokevirtual 94, 3) := by decide +kernel
theorem dX10_printTune_117 : decode cX10_printTune 117 = .ok (.aload_n 0, 1) := by decide +kernel
theorem dX10_printTune_118 : decode cX10_printTune 118 = .ok (.aload_n 0, 1) := by decide +kernel
theorem dX10_printTune_119 : decode cX10_printTune 119 = .ok (.getfield 24, 3) := by decide +kernel
theorem dX10_printTune_122 : decode cX10_printTune 122 = .ok (.getfield 216, 3) := by decide +kernel
theorem dX10_printTune_125 : decode cX10_printTune 125 = .ok (.iload_n 1, 1) := by decide +kernel
theorem dX10_printTune_126 : decode cX10_printTune 126 = .ok (.iconst 1, 1) := by decide +kernel
theorem dX10_printTune_127 : decode cX10_printTune 127 = .ok (.invokevirtual 122, 3) := by decide +kernel
theorem dX10_printTune_130 : decode cX10_printTune 130 = .ok (.invokevirtual 314, 3) := by decide +kernel
theorem dX10_printTune_133 : decode cX10_printTune 133 = .ok (.aload_n 0, 1) := by decide +kernel
theorem dX10_printTune_134 : decode cX10_printTune 134 = .ok (.getfield 18, 3) := by decide +kernel
theorem dX10_printTune_137 : decode cX10_printTune 137 = .ok (.invokevirtual 87, 3) := by decide +kernel
theorem dX10_printTune_140 : decode cX10_printTune 140 = .ok (.ireturn, 1) := by decide +kernel
theorem dX10_outputByte_0 : decode cX10_outputByte 0 = .ok (.aload_n 0, 1) := by decide +kernel
theorem dX10_outputByte_1 : decode cX10_outputByte 1 = .ok (.getfield 18, 3) := by decide +kernel
theorem dX10_outputByte_4 : decode cX10_outputByte 4 = .ok (.iload_n 1, 1) := by decide +kernel
theorem dX10_outputByte_5 : decode cX10_outputByte 5 = .ok (.invokevirtual 329, 3) := by decide +kernel
theorem dX10_outputByte_8 : decode cX10_outputByte 8 = .ok (.ireturn, 1) := by decide +kernel
theorem dX10_saveState_0 : decode cX10_saveState 0 = .ok (.aload_n 0, 1) := by decide +kernel
theorem dX10_saveState_1 : decode cX10_saveState 1 = .ok (.getfield 28, 3) := by decide +kernel
theorem dX10_saveState_4 : decode cX10_saveState 4 = .ok (.aload_n 0, 1) := by decide +kernel
theorem dX10_saveState_5 : decode cX10_saveState 5 = .ok (.getfield 24, 3) := by decide +kernel
theorem dX10_saveState_8 : decode cX10_saveState 8 = .ok (.invokevirtual 80, 3) := by decide +kernel
theorem dX10_saveState_11 : decode cX10_saveState 11 = .ok (.aload_n 0, 1) := by decide +kernel
theorem dX10_saveState_12 : decode cX10_saveState 12 = .ok (.iconst 1, 1) := by decide +kernel
theorem dX10_saveState_13 : decode cX10_saveState 13 = .ok (.putfield 66, 3) := by decide +kernel
theorem dX10_saveState_16 : decode cX10_saveState 16 = .ok (.aload_n 0, 1) := by decide +kernel
theorem dX10_saveState_17 : decode cX10_saveState 17 = .ok (.getfield 28, 3) := by decide +kernel
theorem dX10_saveState_20 : decode cX10_saveState 20 = .ok (.getfield 155, 3) := by decide +kernel
theorem dX10_saveState_23 : decode cX10_saveState 23 = .ok (.ireturn, 1) := by decide +kernel
theorem dX10_restoreState_0 : decode cX10_restoreState 0 = .ok (.aload_n 0, 1) := by decide +kernel
theorem dX10_restoreState_1 : decode cX10_restoreState 1 = .ok (.getfield 66, 3) := by decide +kernel
theorem dX10_restoreState_4 : decode cX10_restoreState 4 = .ok (.ifCond .ne 14, 3) := by decide +kernel
theorem dX10_restoreState_7 : decode cX10_restoreState 7 = .ok (.new 306, 3) := by decide +kernel
theorem dX10_restoreState_10 : decode cX10_restoreState 10 = .ok (.dup, 1) := by decide +kernel
theorem dX10_restoreState_11 : decode cX10_restoreState 11 = .ok (.ldc_w 331, 3) := by decide +kernel
theorem dX10_restoreState_14 : decode cX10_restoreState 14 = .ok (.invokespecial 310, 3) := by decide +kernel
theorem dX10_restoreState_17 : decode cX10_restoreState 17 = .ok (.athrow, 1) := by decide +kernel
theorem dX10_restoreState_18 : decode cX10_restoreState 18 = .ok (.aload_n 0, 1) := by decide +kernel
theorem dX10_restoreState_19 : decode cX10_restoreState 19 = .ok (.getfield 24, 3) := by decide +kernel
theorem dX10_restoreState_22 : decode cX10_restoreState 22 = .ok (.aload_n 0, 1) := by decide +kernel
theorem dX10_restoreState_23 : decode cX10_restoreState 23 = .ok (.getfield 28, 3) := by decide +kernel
theorem dX10_restoreState_26 : decode cX10_restoreState 26 = .ok (.invokevirtual 80, 3) := by decide +kernel
theorem dX10_restoreState_29 : decode cX10_restoreState 29 = .ok (.aload_n 0, 1) := by decide +kernel
theorem dX10_restoreState_30 : decode cX10_restoreState 30 = .ok (.getfield 37, 3) := by decide +kernel
theorem dX10_restoreState_33 : decode cX10_restoreState 33 = .ok (.invokevirtual 101, 3) := by decide +kernel
theorem dX10_restoreState_36 : decode cX10_restoreState 36 = .ok (.aload_n 0, 1) := by decide +kernel
theorem dX10_restoreState_37 : decode cX10_restoreState 37 = .ok (.getfield 24, 3) := by decide +kernel
theorem dX10_restoreState_40 : decode cX10_restoreState 40 = .ok (.getfield 155, 3) := by decide +kernel
theorem dX10_restoreState_43 : decode cX10_restoreState 43 = .ok (.ireturn, 1) := by decide +kernel
theorem dX10_needRoof_0 : decode cX10_needRoof 0 = .ok (.iload_n 1, 1) := by decide +kernel
theorem dX10_needRoof_1 : decode cX10_needRoof 1 = .ok (.ifCond .lt 14, 3) := by decide +kernel
theorem dX10_needRoof_4 : decode cX10_needRoof 4 = .ok (.iload_n 1, 1) := by decide +kernel
theorem dX10_needRoof_5 : decode cX10_needRoof 5 = .ok (.aload_n 0, 1) := by decide +kernel
theorem dX10_needRoof_6 : decode cX10_needRoof 6 = .ok (.getfield 24, 3) := by decide +kernel
theorem dX10_needRoof_9 : decode cX10_needRoof 9 = .ok (.getfield 249, 3) := by decide +kernel
theorem dX10_needRoof_12 : decode cX10_needRoof 12 = .ok (.if_icmp .lt 14, 3) := by decide +kernel
theorem dX10_needRoof_15 : decode cX10_needRoof 15 = .ok (.new 189, 3) := by decide +kernel
theorem dX10_needRoof_18 : decode cX10_needRoof 18 = .ok (.dup, 1) := by decide +kernel
theorem dX10_needRoof_19 : decode cX10_needRoof 19 = .ok (.ldc_w 333, 3) := by decide +kernel
theorem dX10_needRoof_22 : decode cX10_needRoof 22 = .ok (.invokespecial 193, 3) := by decide +kernel
theorem dX10_needRoof_25 : decode cX10_needRoof 25 = .ok (.athrow, 1) := by decide +kernel
theorem dX10_needRoof_26 : decode cX10_needRoof 26 = .ok (.return_, 1) := by decide +kernel
theorem dX10_needTune_0 : decode cX10_needTune 0 = .ok (.iload_n 1, 1) := by decide +kernel
theorem dX10_needTune_1 : decode cX10_needTune 1 = .ok (.ifCond .lt 14, 3) := by decide +kernel
theorem dX10_needTune_4 : decode cX10_needTune 4 = .ok (.iload_n 1, 1) := by decide +kernel
theorem dX10_needTune_5 : decode cX10_needTune 5 = .ok (.aload_n 0, 1) := by decide +kernel
theorem dX10_needTune_6 : decode cX10_needTune 6 = .ok (.getfield 24, 3) := by decide +kernel
theorem dX10_needTune_9 : decode cX10_needTune 9 = .ok (.getfield 155, 3) := by decide +kernel
theorem dX10_needTune_12 : decode cX10_needTune 12 = .ok (.if_icmp .lt 14, 3) := by decide +kernel
theorem dX10_needTune_15 : decode cX10_needTune 15 = .ok (.new 189, 3) := by decide +kernel
theorem dX10_needTune_18 : decode cX10_needTune 18 = .ok (.dup, 1) := by decide +kernel
theorem dX10_needTune_19 : decode cX10_needTune 19 = .ok (.ldc_w 335, 3) := by decide +kernel
theorem dX10_needTune_22 : decode cX10_needTune 22 = .ok (.invokespecial 193, 3) := by decide +kernel
theorem dX10_needTune_25 : decode cX10_needTune 25 = .ok (.athrow, 1) := by decide +kernel
theorem dX10_needTune_26 : decode cX10_needTune 26 = .ok (.return_, 1) := by decide +kernel
theorem dX10_needNumber_0 : decode cX10_needNumber 0 = .ok (.iload_n 1, 1) := by decide +kernel
theorem dX10_needNumber_1 : decode cX10_needNumber 1 = .ok (.iload_n 2, 1) := by decide +kernel
theorem dX10_needNumber_2 : decode cX10_needNumber 2 = .ok (.if_icmp .lt 8, 3) := by decide +kernel
theorem dX10_needNumber_5 : decode cX10_needNumber 5 = .ok (.iload_n 1, 1) := by decide +kernel
theorem dX10_needNumber_6 : decode cX10_needNumber 6 = .ok (.iload_n 3, 1) := by decide +kernel
theorem dX10_needNumber_7 : decode cX10_needNumber 7 = .ok (.if_icmp .le 14, 3) := by decide +kernel
theorem dX10_needNumber_10 : decode cX10_needNumber 10 = .ok (.new 266, 3) := by decide +kernel
theorem dX10_needNumber_13 : decode cX10_needNumber 13 = .ok (.dup, 1) := by decide +kernel
theorem dX10_needNumber_14 : decode cX10_needNumber 14 = .ok (.ldc_w 337, 3) := by decide +kernel
theorem dX10_needNumber_17 : decode cX10_needNumber 17 = .ok (.invokespecial 270, 3) := by decide +kernel
theorem dX10_needNumber_20 : decode cX10_needNumber 20 = .ok (.athrow, 1) := by decide +kernel
theorem dX10_needNumber_21 : decode cX10_needNumber 21 = .ok (.return_, 1) := by decide +kernel
theorem dX11_init_0 : decode cX11_init 0 = .ok (.aload_n 0, 1) := by decide +kernel
theorem dX11_init_1 : decode cX11_init 1 = .ok (.invokespecial 1, 3) := by decide +kernel
theorem dX11_init_4 : decode cX11_init 4 = .ok (.aload_n 0, 1) := by decide +kernel
theorem dX11_init_5 : decode cX11_init 5 = .ok (.sipush 1030, 3) := by decide +kernel
theorem dX11_init_8 : decode cX11_init 8 = .ok (.newarray .int, 2) := by decide +kernel
theorem dX11_init_10 : decode cX11_init 10 = .ok (.putfield 9, 3) := by decide +kernel
theorem dX11_init_13 : decode cX11_init 13 = .ok (.aload_n 0, 1) := by decide +kernel
theorem dX11_init_14 : decode cX11_init 14 = .ok (.sipush 1030, 3) := by decide +kernel
theorem dX11_init_17 : decode cX11_init 17 = .ok (.newarray .int, 2) := by decide +kernel
theorem dX11_init_19 : decode cX11_init 19 = .ok (.putfield 13, 3) := by decide +kernel
theorem dX11_init_22 : decode cX11_init 22 = .ok (.aload_n 0, 1) := by decide +kernel
theorem dX11_init_23 : decode cX11_init 23 = .ok (.sipush 1030, 3) := by decide +kernel
theorem dX11_init_26 : decode cX11_init 26 = .ok (.newarray .int, 2) := by decide +kernel
theorem dX11_init_28 : decode cX11_init 28 = .ok (.putfield 16, 3) := by decide +kernel
theorem dX11_init_31 : decode cX11_init 31 = .ok (.aload_n 0, 1) := by decide +kernel
theorem dX11_init_32 : decode cX11_init 32 = .ok (.sipush 8240, 3) := by decide +kernel
theorem dX11_init_35 : decode cX11_init 35 = .ok (.newarray .int, 2) := by decide +kernel
theorem dX11_init_37 : decode cX11_init 37 = .ok (.putfield 19, 3) := by decide +kernel
theorem dX11_init_40 : decode cX11_init 40 = .ok (.aload_n 0, 1) := by decide +kernel
theorem dX11_init_41 : decode cX11_init 41 = .ok (.bipush 6, 2) := by decide +kernel
theorem dX11_init_43 : decode cX11_init 43 = .ok (.newarray .int, 2) := by decide +kernel
theorem dX11_init_45 : decode cX11_init 45 = .ok (.putfield 22, 3) := by decide +kernel
theorem dX11_init_48 : decode cX11_init 48 = .ok (.aload_n 0, 1) := by decide +kernel
theorem dX11_init_49 : decode cX11_init 49 = .ok (.bipush 10, 2) := by decide +kernel
theorem dX11_init_51 : decode cX11_init 51 = .ok (.newarray .int, 2) := by decide +kernel
theorem dX11_init_53 : decode cX11_init 53 = .ok (.putfield 25, 3) := by decide +kernel
theorem dX11_init_56 : decode cX11_init 56 = .ok (.aload_n 0, 1) := by decide +kernel
theorem dX11_init_57 : decode cX11_init 57 = .ok (.bipush 8, 2) := by decide +kernel
theorem dX11_init_59 : decode cX11_init 59 = .ok (.newarray .int, 2) := by decide +kernel
theorem dX11_init_61 : decode cX11_init 61 = .ok (.putfield 28, 3) := by decide +kernel
theorem dX11_init_64 : decode cX11_init 64 = .ok (.aload_n 0, 1) := by decide +kernel
theorem dX11_init_65 : decode cX11_init 65 = .ok (.sipush 800, 3) := by decide +kernel
theorem dX11_init_68 : decode cX11_init 68 = .ok (.newarray .byte, 2) := by decide +kernel
theorem dX11_init_70 : decode cX11_init 70 = .ok (.putfield 31, 3) := by decide +kernel
theorem dX11_init_73 : decode cX11_init 73 = .ok (.aload_n 0, 1) := by decide +kernel
theorem dX11_init_74 : decode cX11_init 74 = .ok (.iconst (-1), 1) := by decide +kernel
theorem dX11_init_75 : decode cX11_init 75 = .ok (.putfield 35, 3) := by decide +kernel
theorem dX11_init_78 : decode cX11_init 78 = .ok (.aload_n 0, 1) := by decide +kernel
theorem dX11_init_79 : decode cX11_init 79 = .ok (.sipush 360, 3) := by decide +kernel
theorem dX11_init_82 : decode cX11_init 82 = .ok (.newarray .int, 2) := by decide +kernel
theorem dX11_init_84 : decode cX11_init 84 = .ok (.putfield 39, 3) := by decide +kernel
theorem dX11_init_87 : decode cX11_init 87 = .ok (.aload_n 0, 1) := by decide +kernel
theorem dX11_init_88 : decode cX11_init 88 = .ok (.bipush 10, 2) := by decide +kernel
theorem dX11_init_90 : decode cX11_init 90 = .ok (.newarray .int, 2) := by decide +kernel
theorem dX11_init_92 : decode cX11_init 92 = .ok (.putfield 42, 3) := by decide +kernel
theorem dX11_init_95 : decode cX11_init 95 = .ok (.aload_n 0, 1) := by decide +kernel
theorem dX11_init_96 : decode cX11_init 96 = .ok (.bipush 10, 2) := by decide +kernel
theorem dX11_init_98 : decode cX11_init 98 = .ok (.newarray .boolean, 2) := by decide +kernel
theorem dX11_init_100 : decode cX11_init 100 = .ok (.putfield 45, 3) := by decide +kernel
theorem dX11_init_103 : decode cX11_init 103 = .ok (.aload_n 0, 1) := by decide +kernel
theorem dX11_init_104 : decode cX11_init 104 = .ok (.sipush 300, 3) := by decide +kernel
theorem dX11_init_107 : decode cX11_init 107 = .ok (.newarray .byte, 2) := by decide +kernel
theorem dX11_init_109 : decode cX11_init 109 = .ok (.putfield 49, 3) := by decide +kernel
theorem dX11_init_112 : decode cX11_init 112 = .ok (.aload_n 0, 1) := by decide +kernel
theorem dX11_init_113 : decode cX11_init 113 = .ok (.invokevirtual 52, 3) := by decide +kernel
theorem dX11_init_116 : decode cX11_init 116 = .ok (.ldc 55, 2) := by decide +kernel
theorem dX11_init_118 : decode cX11_init 118 = .ok (.astore_n 1, 1) := by decide +kernel
theorem dX11_init_119 : decode cX11_init 119 = .ok (.bipush 16, 2) := by decide +kernel
theorem dX11_init_121 : decode cX11_init 121 = .ok (.newarray .int, 2) := by decide +kernel
theorem dX11_init_123 : decode cX11_init 123 = .ok (.dup, 1) := by decide +kernel
theorem dX11_init_124 : decode cX11_init 124 = .ok (.iconst 0, 1) := by decide +kernel
theorem dX11_init_125 : decode cX11_init 125 = .ok (.iconst 4, 1) := by decide +kernel
theorem dX11_init_126 : decode cX11_init 126 = .ok (.iastore, 1) := by decide +kernel
theorem dX11_init_127 : decode cX11_init 127 = .ok (.dup, 1) := by decide +kernel
theorem dX11_init_128 : decode cX11_init 128 = .ok (.iconst 1, 1) := by decide +kernel
theorem dX11_init_129 : decode cX11_init 129 = .ok (.iconst 2, 1) := by decide +kernel
theorem dX11_init_130 : decode cX11_init 130 = .ok (.iastore, 1) := by decide +kernel
theorem dX11_init_131 : decode cX11_init 131 = .ok (.dup, 1) := by decide +kernel
theorem dX11_init_132 : decode cX11_init 132 = .ok (.iconst 2, 1) := by decide +kernel
theorem dX11_init_133 : decode cX11_init 133 = .ok (.iconst 1, 1) := by decide +kernel
theorem dX11_init_134 : decode cX11_init 134 = .ok (.iastore, 1) := by decide +kernel
theorem dX11_init_135 : decode cX11_init 135 = .ok (.dup, 1) := by decide +kernel
theorem dX11_init_136 : decode cX11_init 136 = .ok (.iconst 3, 1) := by decide +kernel
theorem dX11_init_137 : decode cX11_init 137 = .ok (.bipush 30, 2) := by decide +kernel
theorem dX11_init_139 : decode cX11_init 139 = .ok (.iastore, 1) := by decide +kernel
theorem dX11_init_140 : decode cX11_init 140 = .ok (.dup, 1) := by decide +kernel
theorem dX11_init_141 : decode cX11_init 141 = .ok (.iconst 4, 1) := by decide +kernel
theorem dX11_init_142 : decode cX11_init 142 = .ok (.iconst 2, 1) := by decide +kernel
theorem dX11_init_143 : decode cX11_init 143 = .ok (.iastore, 1) := by decide +kernel
theorem dX11_init_144 : decode cX11_init 144 = .ok (.dup, 1) := by decide +kernel
theorem dX11_init_145 : decode cX11_init 145 = .ok (.iconst 5, 1) := by decide +kernel
theorem dX11_init_146 : decode cX11_init 146 = .ok (.iconst 0, 1) := by decide +kernel
theorem dX11_init_147 : decode cX11_init 147 = .ok (.iastore, 1) := by decide +kernel
theorem dX11_init_148 : decode cX11_init 148 = .ok (.dup, 1) := by decide +kernel
theorem dX11_init_149 : decode cX11_init 149 = .ok (.bipush 6, 2) := by decide +kernel
theorem dX11_init_151 : decode cX11_init 151 = .ok (.iconst 2, 1) := by decide +kernel
theorem dX11_init_152 : decode cX11_init 152 = .ok (.iastore, 1) := by decide +kernel
theorem dX11_init_153 : decode cX11_init 153 = .ok (.dup, 1) := by decide +kernel
theorem dX11_init_154 : decode cX11_init 154 = .ok (.bipush 7, 2) := by decide +kernel
theorem dX11_init_156 : decode cX11_init 156 = .ok (.bipush 20, 2) := by decide +kernel
theorem dX11_init_158 : decode cX11_init 158 = .ok (.iastore, 1) := by decide +kernel
theorem dX11_init_159 : decode cX11_init 159 = .ok (.dup, 1) := by decide +kernel
theorem dX11_init_160 : decode cX11_init 160 = .ok (.bipush 8, 2) := by decide +kernel
theorem dX11_init_162 : decode cX11_init 162 = .ok (.iconst 3, 1) := by decide +kernel
theorem dX11_init_163 : decode cX11_init 163 = .ok (.iastore, 1) := by decide +kernel
theorem dX11_init_164 : decode cX11_init 164 = .ok (.dup, 1) := by decide +kernel
theorem dX11_init_165 : decode cX11_init 165 = .ok (.bipush 9, 2) := by decide +kernel
theorem dX11_init_167 : decode cX11_init 167 = .ok (.iconst 5, 1) := by decide +kernel
theorem dX11_init_168 : decode cX11_init 168 = .ok (.iastore, 1) := by decide +kernel
theorem dX11_init_169 : decode cX11_init 169 = .ok (.dup, 1) := by decide +kernel
theorem dX11_init_170 : decode cX11_init 170 = .ok (.bipush 10, 2) := by decide +kernel
theorem dX11_init_172 : decode cX11_init 172 = .ok (.iconst 0, 1) := by decide +kernel
theorem dX11_init_173 : decode cX11_init 173 = .ok (.iastore, 1) := by decide +kernel
theorem dX11_init_174 : decode cX11_init 174 = .ok (.dup, 1) := by decide +kernel
theorem dX11_init_175 : decode cX11_init 175 = .ok (.bipush 11, 2) := by decide +kernel
theorem dX11_init_177 : decode cX11_init 177 = .ok (.bipush 9, 2) := by decide +kernel
theorem dX11_init_179 : decode cX11_init 179 = .ok (.iastore, 1) := by decide +kernel
theorem dX11_init_180 : decode cX11_init 180 = .ok (.dup, 1) := by decide +kernel
theorem dX11_init_181 : decode cX11_init 181 = .ok (.bipush 12, 2) := by decide +kernel
theorem dX11_init_183 : decode cX11_init 183 = .ok (.bipush 8, 2) := by decide +kernel
theorem dX11_init_185 : decode cX11_init 185 = .ok (.iastore, 1) := by decide +kernel
theorem dX11_init_186 : decode cX11_init 186 = .ok (.dup, 1) := by decide +kernel
theorem dX11_init_187 : decode cX11_init 187 = .ok (.bipush 13, 2) := by decide +kernel
theorem dX11_init_189 : decode cX11_init 189 = .ok (.iconst 1, 1) := by decide +kernel
theorem dX11_init_190 : decode cX11_init 190 = .ok (.iastore, 1) := by decide +kernel
theorem dX11_init_191 : decode cX11_init 191 = .ok (.dup, 1) := by decide +kernel
theorem dX11_init_192 : decode cX11_init 192 = .ok (.bipush 14, 2) := by decide +kernel
theorem dX11_init_194 : decode cX11_init 194 = .ok (.iconst 3, 1) := by decide +kernel
theorem dX11_init_195 : decode cX11_init 195 = .ok (.iastore, 1) := by decide +kernel
theorem dX11_init_196 : decode cX11_init 196 = .ok (.dup, 1) := by decide +kernel
theorem dX11_init_197 : decode cX11_init 197 = .ok (.bipush 15, 2) := by decide +kernel
theorem dX11_init_199 : decode cX11_init 199 = .ok (.bipush 40, 2) := by decide +kernel
theorem dX11_init_201 : decode cX11_init 201 = .ok (.iastore, 1) := by decide +kernel
theorem dX11_init_202 : decode cX11_init 202 = .ok (.astore_n 2, 1) := by decide +kernel
theorem dX11_init_203 : decode cX11_init 203 = .ok (.iconst 0, 1) := by decide +kernel
theorem dX11_init_204 : decode cX11_init 204 = .ok (.istore_n 3, 1) := by decide +kernel
theorem dX11_init_205 : decode cX11_init 205 = .ok (.iload_n 3, 1) := by decide +kernel
theorem dX11_init_206 : decode cX11_init 206 = .ok (.aload_n 1, 1) := by decide +kernel
theorem dX11_init_207 : decode cX11_init 207 = .ok (.invokevirtual 57, 3) := by decide +kernel
theorem dX11_init_210 : decode cX11_init 210 = .ok (.if_icmp .ge 103, 3) := by decide +kernel
theorem dX11_init_213 : decode cX11_init 213 = .ok (.aload_n 0, 1) := by decide +kernel
theorem dX11_init_214 : decode cX11_init 214 = .ok (.iconst 0, 1) := by decide +kernel
theorem dX11_init_215 : decode cX11_init 215 = .ok (.putfield 63, 3) := by decide +kernel
theorem dX11_init_218 : decode cX11_init 218 = .ok (.aload_n 1, 1) := by decide +kernel
theorem dX11_init_219 : decode cX11_init 219 = .ok (.iload_n 3, 1) := by decide +kernel
theorem dX11_init_220 : decode cX11_init 220 = .ok (.aload_n 0, 1) := by decide +kernel
theorem dX11_init_221 : decode cX11_init 221 = .ok (.getfield 63, 3) := by decide +kernel
theorem dX11_init_224 : decode cX11_init 224 = .ok (.iadd, 1) := by decide +kernel
theorem dX11_init_225 : decode cX11_init 225 = .ok (.invokevirtual 66, 3) := by decide +kernel
theorem dX11_init_228 : decode cX11_init 228 = .ok (.bipush 32, 2) := by decide +kernel
theorem dX11_init_230 : decode cX11_init 230 = .ok (.if_icmp .eq 35, 3) := by decide +kernel
theorem dX11_init_233 : decode cX11_init 233 = .ok (.aload_n 0, 1) := by decide +kernel
theorem dX11_init_234 : decode cX11_init 234 = .ok (.getfield 22, 3) := by decide +kernel
theorem dX11_init_237 : decode cX11_init 237 = .ok (.aload_n 0, 1) := by decide +kernel
theorem dX11_init_238 : decode cX11_init 238 = .ok (.getfield 63, 3) := by decide +kernel
theorem dX11_init_241 : decode cX11_init 241 = .ok (.aload_n 1, 1) := by decide +kernel
theorem dX11_init_242 : decode cX11_init 242 = .ok (.iload_n 3, 1) := by decide +kernel
theorem dX11_init_243 : decode cX11_init 243 = .ok (.aload_n 0, 1) := by decide +kernel
theorem dX11_init_244 : decode cX11_init 244 = .ok (.getfield 63, 3) := by decide +kernel
theorem dX11_init_247 : decode cX11_init 247 = .ok (.iadd, 1) := by decide +kernel
theorem dX11_init_248 : decode cX11_init 248 = .ok (.invokevirtual 66, 3) := by decide +kernel
theorem dX11_init_251 : decode cX11_init 251 = .ok (.iastore, 1) := by decide +kernel
theorem dX11_init_252 : decode cX11_init 252 = .ok (.aload_n 0, 1) := by decide +kernel
theorem dX11_init_253 : decode cX11_init 253 = .ok (.dup, 1) := by decide +kernel
theorem dX11_init_254 : decode cX11_init 254 = .ok (.getfield 63, 3) := by decide +kernel
theorem dX11_init_257 : decode cX11_init 257 = .ok (.iconst 1, 1) := by decide +kernel
theorem dX11_init_258 : decode cX11_init 258 = .ok (.iadd, 1) := by decide +kernel
theorem dX11_init_259 : decode cX11_init 259 = .ok (.putfield 63, 3) := by decide +kernel
theorem dX11_init_262 : decode cX11_init 262 = .ok (.goto (-44), 3) := by decide +kernel
theorem dX11_init_265 : decode cX11_init 265 = .ok (.iconst 4, 1) := by decide +kernel
theorem dX11_init_266 : decode cX11_init 266 = .ok (.aload_n 0, 1) := by decide +kernel
theorem dX11_init_267 : decode cX11_init 267 = .ok (.getfield 9, 3) := by decide +kernel
theorem dX11_init_270 : decode cX11_init 270 = .ok (.iconst 0, 1) := by decide +kernel
theorem dX11_init_271 : decode cX11_init 271 = .ok (.iaload, 1) := by decide +kernel
theorem dX11_init_272 : decode cX11_init 272 = .ok (.imul, 1) := by decide +kernel
theorem dX11_init_273 : decode cX11_init 273 = .ok (.istore 4, 2) := by decide +kernel
theorem dX11_init_275 : decode cX11_init 275 = .ok (.aload_n 0, 1) := by decide +kernel
theorem dX11_init_276 : decode cX11_init 276 = .ok (.aload_n 2, 1) := by decide +kernel
theorem dX11_init_277 : decode cX11_init 277 = .ok (.iload 4, 2) := by decide +kernel
theorem dX11_init_279 : decode cX11_init 279 = .ok (.iaload, 1) := by decide +kernel
theorem dX11_init_280 : decode cX11_init 280 = .ok (.aload_n 2, 1) := by decide +kernel
theorem dX11_init_281 : decode cX11_init 281 = .ok (.iload 4, 2) := by decide +kernel
theorem dX11_init_283 : decode cX11_init 283 = .ok (.iconst 1, 1) := by decide +kernel
theorem dX11_init_284 : decode cX11_init 284 = .ok (.iadd, 1) := by decide +kernel
theorem dX11_init_285 : decode cX11_init 285 = .ok (.iaload, 1) := by decide +kernel
theorem dX11_init_286 : decode cX11_init 286 = .ok (.aload_n 2, 1) := by decide +kernel
theorem dX11_init_287 : decode cX11_init 287 = .ok (.iload 4, 2) := by decide +kernel
theorem dX11_init_289 : decode cX11_init 289 = .ok (.iconst 2, 1) := by decide +kernel
theorem dX11_init_290 : decode cX11_init 290 = .ok (.iadd, 1) := by decide +kernel
theorem dX11_init_291 : decode cX11_init 291 = .ok (.iaload, 1) := by decide +kernel
theorem dX11_init_292 : decode cX11_init 292 = .ok (.aload_n 2, 1) := by decide +kernel
theorem dX11_init_293 : decode cX11_init 293 = .ok (.iload 4, 2) := by decide +kernel
theorem dX11_init_295 : decode cX11_init 295 = .ok (.iconst 3, 1) := by decide +kernel
theorem dX11_init_296 : decode cX11_init 296 = .ok (.iadd, 1) := by decide +kernel
theorem dX11_init_297 : decode cX11_init 297 = .ok (.iaload, 1) := by decide +kernel
theorem dX11_init_298 : decode cX11_init 298 = .ok (.invokevirtual 70, 3) := by decide +kernel
theorem dX11_init_301 : decode cX11_init 301 = .ok (.iload_n 3, 1) := by decide +kernel
theorem dX11_init_302 : decode cX11_init 302 = .ok (.aload_n 0, 1) := by decide +kernel
theorem dX11_init_303 : decode cX11_init 303 = .ok (.getfield 63, 3) := by decide +kernel
theorem dX11_init_306 : decode cX11_init 306 = .ok (.iconst 1, 1) := by decide +kernel
theorem dX11_init_307 : decode cX11_init 307 = .ok (.iadd, 1) := by decide +kernel
theorem dX11_init_308 : decode cX11_init 308 = .ok (.iadd, 1) := by decide +kernel
theorem dX11_init_309 : decode cX11_init 309 = .ok (.istore_n 3, 1) := by decide +kernel
theorem dX11_init_310 : decode cX11_init 310 = .ok (.goto (-105), 3) := by decide +kernel
theorem dX11_init_313 : decode cX11_init 313 = .ok (.aload_n 0, 1) := by decide +kernel
theorem dX11_init_314 : decode cX11_init 314 = .ok (.iconst 0, 1) := by decide +kernel
theorem dX11_init_315 : decode cX11_init 315 = .ok (.iconst 1, 1) := by decide +kernel
theorem dX11_init_316 : decode cX11_init 316 = .ok (.iconst 4, 1) := by decide +kernel
theorem dX11_init_317 : decode cX11_init 317 = .ok (.invokevirtual 74, 3) := by decide +kernel
theorem dX11_init_320 : decode cX11_init 320 = .ok (.aload_n 0, 1) := by decide +kernel
theorem dX11_init_321 : decode cX11_init 321 = .ok (.iconst 1, 1) := by decide +kernel
theorem dX11_init_322 : decode cX11_init 322 = .ok (.iconst 2, 1) := by decide +kernel
theorem dX11_init_323 : decode cX11_init 323 = .ok (.bipush 6, 2) := by decide +kernel
theorem dX11_init_325 : decode cX11_init 325 = .ok (.invokevirtual 74, 3) := by decide +kernel
theorem dX11_init_328 : decode cX11_init 328 = .ok (.aload_n 0, 1) := by decide +kernel
theorem dX11_init_329 : decode cX11_init 329 = .ok (.iconst 0, 1) := by decide +kernel
theorem dX11_init_330 : decode cX11_init 330 = .ok (.iconst 2, 1) := by decide +kernel
theorem dX11_init_331 : decode cX11_init 331 = .ok (.bipush 9, 2) := by decide +kernel
theorem dX11_init_333 : decode cX11_init 333 = .ok (.invokevirtual 74, 3) := by decide +kernel
theorem dX11_init_336 : decode cX11_init 336 = .ok (.aload_n 0, 1) := by decide +kernel
theorem dX11_init_337 : decode cX11_init 337 = .ok (.iconst 2, 1) := by decide +kernel
theorem dX11_init_338 : decode cX11_init 338 = .ok (.iconst 3, 1) := by decide +kernel
theorem dX11_init_339 : decode cX11_init 339 = .ok (.iconst 3, 1) := by decide +kernel
theorem dX11_init_340 : decode cX11_init 340 = .ok (.invokevirtual 74, 3) := by decide +kernel
theorem dX11_init_343 : decode cX11_init 343 = .ok (.return_, 1) := by decide +kernel
theorem dX11_thrown_0 : decode cX11_thrown 0 = .ok (.aload_n 0, 1) := by decide +kernel
theorem dX11_thrown_1 : decode cX11_thrown 1 = .ok (.getfield 78, 3) := by decide +kernel
theorem dX11_thrown_4 : decode cX11_thrown 4 = .ok (.ireturn, 1) := by decide +kernel
theorem dX11_in_0 : decode cX11_in 0 = .ok (.lload_n 0, 1) := by decide +kernel
theorem dX11_in_1 : decode cX11_in 1 = .ok (.lload_n 2, 1) := by decide +kernel
theorem dX11_in_2 : decode cX11_in 2 = .ok (.lcmp, 1) := by decide +kernel
theorem dX11_in_3 : decode cX11_in 3 = .ok (.ifCond .lt 14, 3) := by decide +kernel
theorem dX11_in_6 : decode cX11_in 6 = .ok (.lload_n 0, 1) := by decide +kernel
theorem dX11_in_7 : decode cX11_in 7 = .ok (.lload 4, 2) := by decide +kernel
theorem dX11_in_9 : decode cX11_in 9 = .ok (.lcmp, 1) := by decide +kernel
theorem dX11_in_10 : decode cX11_in 10 = .ok (.ifCond .gt 7, 3) := by decide +kernel
theorem dX11_in_13 : decode cX11_in 13 = .ok (.iconst 1, 1) := by decide +kernel
theorem dX11_in_14 : decode cX11_in 14 = .ok (.goto 4, 3) := by decide +kernel
theorem dX11_in_17 : decode cX11_in 17 = .ok (.iconst 0, 1) := by decide +kernel
theorem dX11_in_18 : decode cX11_in 18 = .ok (.ireturn, 1) := by decide +kernel
theorem dX11_one_0 : decode cX11_one 0 = .ok (.iload_n 0, 1) := by decide +kernel
theorem dX11_one_1 : decode cX11_one 1 = .ok (.ifCond .eq 7, 3) := by decide +kernel
theorem dX11_one_4 : decode cX11_one 4 = .ok (.iconst 1, 1) := by decide +kernel
theorem dX11_one_5 : decode cX11_one 5 = .ok (.goto 4, 3) := by decide +kernel
theorem dX11_one_8 : decode cX11_one 8 = .ok (.iconst 0, 1) := by decide +kernel
theorem dX11_one_9 : decode cX11_one 9 = .ok (.ireturn, 1) := by decide +kernel
theorem dX11_may_0 : decode cX11_may 0 = .ok (.aload_n 0, 1) := by decide +kernel
theorem dX11_may_1 : decode cX11_may 1 = .ok (.iload_n 1, 1) := by decide +kernel
theorem dX11_may_2 : decode cX11_may 2 = .ok (.ifCond .ne 7, 3) := by decide +kernel
theorem dX11_may_5 : decode cX11_may 5 = .ok (.iconst 1, 1) := by decide +kernel
theorem dX11_may_6 : decode cX11_may 6 = .ok (.goto 20, 3) := by decide +kernel
theorem dX11_may_9 : decode cX11_may 9 = .ok (.iload_n 2, 1) := by decide +kernel
theorem dX11_may_10 : decode cX11_may 10 = .ok (.ifCond .ne 7, 3) := by decide +kernel
theorem dX11_may_13 : decode cX11_may 13 = .ok (.iconst 2, 1) := by decide +kernel
theorem dX11_may_14 : decode cX11_may 14 = .ok (.goto 12, 3) := by decide +kernel
theorem dX11_may_17 : decode cX11_may 17 = .ok (.iload_n 3, 1) := by decide +kernel
theorem dX11_may_18 : decode cX11_may 18 = .ok (.ifCond .ne 7, 3) := by decide +kernel
theorem dX11_may_21 : decode cX11_may 21 = .ok (.iconst 3, 1) := by decide +kernel
theorem dX11_may_22 : decode cX11_may 22 = .ok (.goto 4, 3) := by decide +kernel
theorem dX11_may_25 : decode cX11_may 25 = .ok (.iconst 0, 1) := by decide +kernel
theorem dX11_may_26 : decode cX11_may 26 = .ok (.putfield 78, 3) := by decide +kernel
theorem dX11_may_29 : decode cX11_may 29 = .ok (.aload_n 0, 1) := by decide +kernel
theorem dX11_may_30 : decode cX11_may 30 = .ok (.getfield 78, 3) := by decide +kernel
theorem dX11_may_33 : decode cX11_may 33 = .ok (.ifCond .ne 7, 3) := by decide +kernel
theorem dX11_may_36 : decode cX11_may 36 = .ok (.iconst 1, 1) := by decide +kernel
theorem dX11_may_37 : decode cX11_may 37 = .ok (.goto 4, 3) := by decide +kernel
theorem dX11_may_40 : decode cX11_may 40 = .ok (.iconst 0, 1) := by decide +kernel
theorem dX11_may_41 : decode cX11_may 41 = .ok (.ireturn, 1) := by decide +kernel
theorem dX11_r_0 : decode cX11_r 0 = .ok (.bipush 25, 2) := by decide +kernel
theorem dX11_r_2 : decode cX11_r 2 = .ok (.bipush 13, 2) := by decide +kernel
theorem dX11_r_4 : decode cX11_r 4 = .ok (.iload_n 0, 1) := by decide +kernel
theorem dX11_r_5 : decode cX11_r 5 = .ok (.imul, 1) := by decide +kernel
theorem dX11_r_6 : decode cX11_r 6 = .ok (.iadd, 1) := by decide +kernel
theorem dX11_r_7 : decode cX11_r 7 = .ok (.ireturn, 1) := by decide +kernel
theorem dX11_w_0 : decode cX11_w 0 = .ok (.sipush 160, 3) := by decide +kernel
theorem dX11_w_3 : decode cX11_w 3 = .ok (.iconst 3, 1) := by decide +kernel
theorem dX11_w_4 : decode cX11_w 4 = .ok (.iload_n 0, 1) := by decide +kernel
theorem dX11_w_5 : decode cX11_w 5 = .ok (.imul, 1) := by decide +kernel
theorem dX11_w_6 : decode cX11_w 6 = .ok (.iadd, 1) := by decide +kernel
theorem dX11_w_7 : decode cX11_w 7 = .ok (.ireturn, 1) := by decide +kernel
theorem dX11_t_0 : decode cX11_t 0 = .ok (.sipush 220, 3) := by decide +kernel
theorem dX11_t_3 : decode cX11_t 3 = .ok (.bipush 27, 2) := by decide +kernel
theorem dX11_t_5 : decode cX11_t 5 = .ok (.iload_n 0, 1) := by decide +kernel
theorem dX11_t_6 : decode cX11_t 6 = .ok (.imul, 1) := by decide +kernel
theorem dX11_t_7 : decode cX11_t 7 = .ok (.iadd, 1) := by decide +kernel
theorem dX11_t_8 : decode cX11_t 8 = .ok (.ireturn, 1) := by decide +kernel
theorem dX11_counts_0 : decode cX11_counts 0 = .ok (.aload_n 0, 1) := by decide +kernel
theorem dX11_counts_1 : decode cX11_counts 1 = .ok (.getfield 9, 3) := by decide +kernel
theorem dX11_counts_4 : decode cX11_counts 4 = .ok (.bipush 10, 2) := by decide +kernel
theorem dX11_counts_6 : decode cX11_counts 6 = .ok (.iload_n 1, 1) := by decide +kernel
theorem dX11_counts_7 : decode cX11_counts 7 = .ok (.iadd, 1) := by decide +kernel
theorem dX11_counts_8 : decode cX11_counts 8 = .ok (.dup2, 1) := by decide +kernel
theorem dX11_counts_9 : decode cX11_counts 9 = .ok (.iaload, 1) := by decide +kernel
theorem dX11_counts_10 : decode cX11_counts 10 = .ok (.iload_n 2, 1) := by decide +kernel
theorem dX11_counts_11 : decode cX11_counts 11 = .ok (.iadd, 1) := by decide +kernel
theorem dX11_counts_12 : decode cX11_counts 12 = .ok (.iastore, 1) := by decide +kernel
theorem dX11_counts_13 : decode cX11_counts 13 = .ok (.return_, 1) := by decide +kernel
theorem dX11_clears_0 : decode cX11_clears 0 = .ok (.iconst 0, 1) := by decide +kernel
theorem dX11_clears_1 : decode cX11_clears 1 = .ok (.istore_n 1, 1) := by decide +kernel
theorem dX11_clears_2 : decode cX11_clears 2 = .ok (.iload_n 1, 1) := by decide +kernel
theorem dX11_clears_3 : decode cX11_clears 3 = .ok (.sipush 1030, 3) := by decide +kernel
theorem dX11_clears_6 : decode cX11_clears 6 = .ok (.if_icmp .ge 16, 3) := by decide +kernel
theorem dX11_clears_9 : decode cX11_clears 9 = .ok (.aload_n 0, 1) := by decide +kernel
theorem dX11_clears_10 : decode cX11_clears 10 = .ok (.getfield 9, 3) := by decide +kernel
theorem dX11_clears_13 : decode cX11_clears 13 = .ok (.iload_n 1, 1) := by decide +kernel
theorem dX11_clears_14 : decode cX11_clears 14 = .ok (.iconst 0, 1) := by decide +kernel
theorem dX11_clears_15 : decode cX11_clears 15 = .ok (.iastore, 1) := by decide +kernel
theorem dX11_clears_16 : decode cX11_clears 16 = .ok (.iinc 1 1, 3) := by decide +kernel
theorem dX11_clears_19 : decode cX11_clears 19 = .ok (.goto (-17), 3) := by decide +kernel
theorem dX11_clears_22 : decode cX11_clears 22 = .ok (.aload_n 0, 1) := by decide +kernel
theorem dX11_clears_23 : decode cX11_clears 23 = .ok (.getfield 9, 3) := by decide +kernel
theorem dX11_clears_26 : decode cX11_clears 26 = .ok (.iconst 4, 1) := by decide +kernel
theorem dX11_clears_27 : decode cX11_clears 27 = .ok (.iconst 3, 1) := by decide +kernel
theorem dX11_clears_28 : decode cX11_clears 28 = .ok (.iastore, 1) := by decide +kernel
theorem dX11_clears_29 : decode cX11_clears 29 = .ok (.aload_n 0, 1) := by decide +kernel
theorem dX11_clears_30 : decode cX11_clears 30 = .ok (.getfield 9, 3) := by decide +kernel
theorem dX11_clears_33 : decode cX11_clears 33 = .ok (.iconst 5, 1) := by decide +kernel
theorem dX11_clears_34 : decode cX11_clears 34 = .ok (.bipush 50, 2) := by decide +kernel
theorem dX11_clears_36 : decode cX11_clears 36 = .ok (.iastore, 1) := by decide +kernel
theorem dX11_clears_37 : decode cX11_clears 37 = .ok (.aload_n 0, 1) := by decide +kernel
theorem dX11_clears_38 : decode cX11_clears 38 = .ok (.getfield 9, 3) := by decide +kernel
theorem dX11_clears_41 : decode cX11_clears 41 = .ok (.bipush 6, 2) := by decide +kernel
theorem dX11_clears_43 : decode cX11_clears 43 = .ok (.iconst 1, 1) := by decide +kernel
theorem dX11_clears_44 : decode cX11_clears 44 = .ok (.iastore, 1) := by decide +kernel
theorem dX11_clears_45 : decode cX11_clears 45 = .ok (.return_, 1) := by decide +kernel
theorem dX11_copies_0 : decode cX11_copies 0 = .ok (.iconst 0, 1) := by decide +kernel
theorem dX11_copies_1 : decode cX11_copies 1 = .ok (.istore_n 2, 1) := by decide +kernel
theorem dX11_copies_2 : decode cX11_copies 2 = .ok (.iload_n 2, 1) := by decide +kernel
theorem dX11_copies_3 : decode cX11_copies 3 = .ok (.sipush 1030, 3) := by decide +kernel
theorem dX11_copies_6 : decode cX11_copies 6 = .ok (.if_icmp .ge 18, 3) := by decide +kernel
theorem dX11_copies_9 : decode cX11_copies 9 = .ok (.aload_n 1, 1) := by decide +kernel
theorem dX11_copies_10 : decode cX11_copies 10 = .ok (.iload_n 2, 1) := by decide +kernel
theorem dX11_copies_11 : decode cX11_copies 11 = .ok (.aload_n 0, 1) := by decide +kernel
theorem dX11_copies_12 : decode cX11_copies 12 = .ok (.getfield 9, 3) := by decide +kernel
theorem dX11_copies_15 : decode cX11_copies 15 = .ok (.iload_n 2, 1) := by decide +kernel
theorem dX11_copies_16 : decode cX11_copies 16 = .ok (.iaload, 1) := by decide +kernel
theorem dX11_copies_17 : decode cX11_copies 17 = .ok (.iastore, 1) := by decide +kernel
theorem dX11_copies_18 : decode cX11_copies 18 = .ok (.iinc 2 1, 3) := by decide +kernel
theorem dX11_copies_21 : decode cX11_copies 21 = .ok (.goto (-19), 3) := by decide +kernel
theorem dX11_copies_24 : decode cX11_copies 24 = .ok (.return_, 1) := by decide +kernel
theorem dX11_gives_0 : decode cX11_gives 0 = .ok (.iconst 0, 1) := by decide +kernel
theorem dX11_gives_1 : decode cX11_gives 1 = .ok (.istore_n 3, 1) := by decide +kernel
theorem dX11_gives_2 : decode cX11_gives 2 = .ok (.iload_n 3, 1) := by decide +kernel
theorem dX11_gives_3 : decode cX11_gives 3 = .ok (.sipush 1030, 3) := by decide +kernel
theorem dX11_gives_6 : decode cX11_gives 6 = .ok (.if_icmp .ge 18, 3) := by decide +kernel
theorem dX11_gives_9 : decode cX11_gives 9 = .ok (.aload_n 0, 1) := by decide +kernel
theorem dX11_gives_10 : decode cX11_gives 10 = .ok (.getfield 9, 3) := by decide +kernel
theorem dX11_gives_13 : decode cX11_gives 13 = .ok (.iload_n 3, 1) := by decide +kernel
theorem dX11_gives_14 : decode cX11_gives 14 = .ok (.aload_n 1, 1) := by decide +kernel
theorem dX11_gives_15 : decode cX11_gives 15 = .ok (.iload_n 3, 1) := by decide +kernel
theorem dX11_gives_16 : decode cX11_gives 16 = .ok (.iaload, 1) := by decide +kernel
theorem dX11_gives_17 : decode cX11_gives 17 = .ok (.iastore, 1) := by decide +kernel
theorem dX11_gives_18 : decode cX11_gives 18 = .ok (.iinc 3 1, 3) := by decide +kernel
theorem dX11_gives_21 : decode cX11_gives 21 = .ok (.goto (-19), 3) := by decide +kernel
theorem dX11_gives_24 : decode cX11_gives 24 = .ok (.iload_n 2, 1) := by decide +kernel
theorem dX11_gives_25 : decode cX11_gives 25 = .ok (.ireturn, 1) := by decide +kernel
theorem dX11_remembers_0 : decode cX11_remembers 0 = .ok (.aload_n 0, 1) := by decide +kernel
theorem dX11_remembers_1 : decode cX11_remembers 1 = .ok (.getfield 81, 3) := by decide +kernel
theorem dX11_remembers_4 : decode cX11_remembers 4 = .ok (.bipush 8, 2) := by decide +kernel
theorem dX11_remembers_6 : decode cX11_remembers 6 = .ok (.if_icmp .ne 46, 3) := by decide +kernel
theorem dX11_remembers_9 : decode cX11_remembers 9 = .ok (.sipush 1030, 3) := by decide +kernel
theorem dX11_remembers_12 : decode cX11_remembers 12 = .ok (.istore_n 1, 1) := by decide +kernel
theorem dX11_remembers_13 : decode cX11_remembers 13 = .ok (.iload_n 1, 1) := by decide +kernel
theorem dX11_remembers_14 : decode cX11_remembers 14 = .ok (.sipush 8240, 3) := by decide +kernel
theorem dX11_remembers_17 : decode cX11_remembers 17 = .ok (.if_icmp .ge 25, 3) := by decide +kernel
theorem dX11_remembers_20 : decode cX11_remembers 20 = .ok (.aload_n 0, 1) := by decide +kernel
theorem dX11_remembers_21 : decode cX11_remembers 21 = .ok (.getfield 19, 3) := by decide +kernel
theorem dX11_remembers_24 : decode cX11_remembers 24 = .ok (.iload_n 1, 1) := by decide +kernel
theorem dX11_remembers_25 : decode cX11_remembers 25 = .ok (.sipush 1030, 3) := by decide +kernel
theorem dX11_remembers_28 : decode cX11_remembers 28 = .ok (.isub, 1) := by decide +kernel
theorem dX11_remembers_29 : decode cX11_remembers 29 = .ok (.aload_n 0, 1) := by decide +kernel
theorem dX11_remembers_30 : decode cX11_remembers 30 = .ok (.getfield 19, 3) := by decide +kernel
theorem dX11_remembers_33 : decode cX11_remembers 33 = .ok (.iload_n 1, 1) := by decide +kernel
theorem dX11_remembers_34 : decode cX11_remembers 34 = .ok (.iaload, 1) := by decide +kernel
theorem dX11_remembers_35 : decode cX11_remembers 35 = .ok (.iastore, 1) := by decide +kernel
theorem dX11_remembers_36 : decode cX11_remembers 36 = .ok (.iinc 1 1, 3) := by decide +kernel
theorem dX11_remembers_39 : decode cX11_remembers 39 = .ok (.goto (-26), 3) := by decide +kernel
theorem dX11_remembers_42 : decode cX11_remembers 42 = .ok (.aload_n 0, 1) := by decide +kernel
theorem dX11_remembers_43 : decode cX11_remembers 43 = .ok (.dup, 1) := by decide +kernel
theorem dX11_remembers_44 : decode cX11_remembers 44 = .ok (.getfield 81, 3) := by decide +kernel
theorem dX11_remembers_47 : decode cX11_remembers 47 = .ok (.iconst 1, 1) := by decide +kernel
theorem dX11_remembers_48 : decode cX11_remembers 48 = .ok (.isub, 1) := by decide +kernel
theorem dX11_remembers_49 : decode cX11_remembers 49 = .ok (.putfield 81, 3) := by decide +kernel
theorem dX11_remembers_52 : decode cX11_remembers 52 = .ok (.iconst 0, 1) := by decide +kernel
theorem dX11_remembers_53 : decode cX11_remembers 53 = .ok (.istore_n 1, 1) := by decide +kernel
theorem dX11_remembers_54 : decode cX11_remembers 54 = .ok (.iload_n 1, 1) := by decide +kernel
theorem dX11_remembers_55 : decode cX11_remembers 55 = .ok (.sipush 1030, 3) := by decide +kernel
theorem dX11_remembers_58 : decode cX11_remembers 58 = .ok (.if_icmp .ge 30, 3) := by decide +kernel
theorem dX11_remembers_61 : decode cX11_remembers 61 = .ok (.aload_n 0, 1) := by decide +kernel
theorem dX11_remembers_62 : decode cX11_remembers 62 = .ok (.getfield 19, 3) := by decide +kernel
theorem dX11_remembers_65 : decode cX11_remembers 65 = .ok (.sipush 1030, 3) := by decide +kernel
theorem dX11_remembers_68 : decode cX11_remembers 68 = .ok (.aload_n 0, 1) := by decide +kernel
theorem dX11_remembers_69 : decode cX11_remembers 69 = .ok (.getfield 81, 3) := by decide +kernel
theorem dX11_remembers_72 : decode cX11_remembers 72 = .ok (.imul, 1) := by decide +kernel
theorem dX11_remembers_73 : decode cX11_remembers 73 = .ok (.iload_n 1, 1) := by decide +kernel
theorem dX11_remembers_74 : decode cX11_remembers 74 = .ok (.iadd, 1) := by decide +kernel
theorem dX11_remembers_75 : decode cX11_remembers 75 = .ok (.aload_n 0, 1) := by decide +kernel
theorem dX11_remembers_76 : decode cX11_remembers 76 = .ok (.getfield 9, 3) := by decide +kernel
theorem dX11_remembers_79 : decode cX11_remembers 79 = .ok (.iload_n 1, 1) := by decide +kernel
theorem dX11_remembers_80 : decode cX11_remembers 80 = .ok (.iaload, 1) := by decide +kernel
theorem dX11_remembers_81 : decode cX11_remembers 81 = .ok (.iastore, 1) := by decide +kernel
theorem dX11_remembers_82 : decode cX11_remembers 82 = .ok (.iinc 1 1, 3) := by decide +kernel
theorem dX11_remembers_85 : decode cX11_remembers 85 = .ok (.goto (-31), 3) := by decide +kernel
theorem dX11_remembers_88 : decode cX11_remembers 88 = .ok (.aload_n 0, 1) := by decide +kernel
theorem dX11_remembers_89 : decode cX11_remembers 89 = .ok (.dup, 1) := by decide +kernel
theorem dX11_remembers_90 : decode cX11_remembers 90 = .ok (.getfield 81, 3) := by decide +kernel
theorem dX11_remembers_93 : decode cX11_remembers 93 = .ok (.iconst 1, 1) := by decide +kernel
theorem dX11_remembers_94 : decode cX11_remembers 94 = .ok (.iadd, 1) := by decide +kernel
theorem dX11_remembers_95 : decode cX11_remembers 95 = .ok (.putfield 81, 3) := by decide +kernel
theorem dX11_remembers_98 : decode cX11_remembers 98 = .ok (.return_, 1) := by decide +kernel
theorem dX11_named_0 : decode cX11_named 0 = .ok (.iconst 0, 1) := by decide +kernel
theorem dX11_named_1 : decode cX11_named 1 = .ok (.istore_n 1, 1) := by decide +kernel
theorem dX11_named_2 : decode cX11_named 2 = .ok (.iload_n 1, 1) := by decide +kernel
theorem dX11_named_3 : decode cX11_named 3 = .ok (.aload_n 0, 1) := by decide +kernel
theorem dX11_named_4 : decode cX11_named 4 = .ok (.getfield 9, 3) := by decide +kernel
theorem dX11_named_7 : decode cX11_named 7 = .ok (.iconst 0, 1) := by decide +kernel
theorem dX11_named_8 : decode cX11_named 8 = .ok (.iaload, 1) := by decide +kernel
theorem dX11_named_9 : decode cX11_named 9 = .ok (.if_icmp .ge 85, 3) := by decide +kernel
theorem dX11_named_12 : decode cX11_named 12 = .ok (.aload_n 0, 1) := by decide +kernel
theorem dX11_named_13 : decode cX11_named 13 = .ok (.getfield 9, 3) := by decide +kernel
theorem dX11_named_16 : decode cX11_named 16 = .ok (.iload_n 1, 1) := by decide +kernel
theorem dX11_named_17 : decode cX11_named 17 = .ok (.invokestatic 84, 3) := by decide +kernel
theorem dX11_named_20 : decode cX11_named 20 = .ok (.iaload, 1) := by decide +kernel
theorem dX11_named_21 : decode cX11_named 21 = .ok (.aload_n 0, 1) := by decide +kernel
theorem dX11_named_22 : decode cX11_named 22 = .ok (.getfield 63, 3) := by decide +kernel
theorem dX11_named_25 : decode cX11_named 25 = .ok (.if_icmp .ne 7, 3) := by decide +kernel
theorem dX11_named_28 : decode cX11_named 28 = .ok (.iconst 1, 1) := by decide +kernel
theorem dX11_named_29 : decode cX11_named 29 = .ok (.goto 4, 3) := by decide +kernel
theorem dX11_named_32 : decode cX11_named 32 = .ok (.iconst 0, 1) := by decide +kernel
theorem dX11_named_33 : decode cX11_named 33 = .ok (.istore_n 2, 1) := by decide +kernel
theorem dX11_named_34 : decode cX11_named 34 = .ok (.iconst 0, 1) := by decide +kernel
theorem dX11_named_35 : decode cX11_named 35 = .ok (.istore_n 3, 1) := by decide +kernel
theorem dX11_named_36 : decode cX11_named 36 = .ok (.iload_n 3, 1) := by decide +kernel
theorem dX11_named_37 : decode cX11_named 37 = .ok (.aload_n 0, 1) := by decide +kernel
theorem dX11_named_38 : decode cX11_named 38 = .ok (.getfield 63, 3) := by decide +kernel
theorem dX11_named_41 : decode cX11_named 41 = .ok (.if_icmp .ge 41, 3) := by decide +kernel
theorem dX11_named_44 : decode cX11_named 44 = .ok (.iload_n 2, 1) := by decide +kernel
theorem dX11_named_45 : decode cX11_named 45 = .ok (.ifCond .eq 37, 3) := by decide +kernel
theorem dX11_named_48 : decode cX11_named 48 = .ok (.aload_n 0, 1) := by decide +kernel
theorem dX11_named_49 : decode cX11_named 49 = .ok (.getfield 9, 3) := by decide +kernel
theorem dX11_named_52 : decode cX11_named 52 = .ok (.iload_n 1, 1) := by decide +kernel
theorem dX11_named_53 : decode cX11_named 53 = .ok (.invokestatic 84, 3) := by decide +kernel
theorem dX11_named_56 : decode cX11_named 56 = .ok (.iconst 1, 1) := by decide +kernel
theorem dX11_named_57 : decode cX11_named 57 = .ok (.iadd, 1) := by decide +kernel
theorem dX11_named_58 : decode cX11_named 58 = .ok (.iload_n 3, 1) := by decide +kernel
theorem dX11_named_59 : decode cX11_named 59 = .ok (.iadd, 1) := by decide +kernel
theorem dX11_named_60 : decode cX11_named 60 = .ok (.iaload, 1) := by decide +kernel
theorem dX11_named_61 : decode cX11_named 61 = .ok (.aload_n 0, 1) := by decide +kernel
theorem dX11_named_62 : decode cX11_named 62 = .ok (.getfield 22, 3) := by decide +kernel
theorem dX11_named_65 : decode cX11_named 65 = .ok (.iload_n 3, 1) := by decide +kernel
theorem dX11_named_66 : decode cX11_named 66 = .ok (.iaload, 1) := by decide +kernel
theorem dX11_named_67 : decode cX11_named 67 = .ok (.if_icmp .ne 7, 3) := by decide +kernel
theorem dX11_named_70 : decode cX11_named 70 = .ok (.iconst 1, 1) := by decide +kernel
theorem dX11_named_71 : decode cX11_named 71 = .ok (.goto 4, 3) := by decide +kernel
theorem dX11_named_74 : decode cX11_named 74 = .ok (.iconst 0, 1) := by decide +kernel
theorem dX11_named_75 : decode cX11_named 75 = .ok (.istore_n 2, 1) := by decide +kernel
theorem dX11_named_76 : decode cX11_named 76 = .ok (.iinc 3 1, 3) := by decide +kernel
theorem dX11_named_79 : decode cX11_named 79 = .ok (.goto (-43), 3) := by decide +kernel
theorem dX11_named_82 : decode cX11_named 82 = .ok (.iload_n 2, 1) := by decide +kernel
theorem dX11_named_83 : decode cX11_named 83 = .ok (.ifCond .eq 5, 3) := by decide +kernel
theorem dX11_named_86 : decode cX11_named 86 = .ok (.iload_n 1, 1) := by decide +kernel
theorem dX11_named_87 : decode cX11_named 87 = .ok (.ireturn, 1) := by decide +kernel
theorem dX11_named_88 : decode cX11_named 88 = .ok (.iinc 1 1, 3) := by decide +kernel
theorem dX11_named_91 : decode cX11_named 91 = .ok (.goto (-89), 3) := by decide +kernel
theorem dX11_named_94 : decode cX11_named 94 = .ok (.iconst (-1), 1) := by decide +kernel
theorem dX11_named_95 : decode cX11_named 95 = .ok (.ireturn, 1) := by decide +kernel
theorem dX11_newRoof_0 : decode cX11_newRoof 0 = .ok (.aload_n 0, 1) := by decide +kernel
theorem dX11_newRoof_1 : decode cX11_newRoof 1 = .ok (.getfield 9, 3) := by decide +kernel
theorem dX11_newRoof_4 : decode cX11_newRoof 4 = .ok (.iconst 0, 1) := by decide +kernel
theorem dX11_newRoof_5 : decode cX11_newRoof 5 = .ok (.iaload, 1) := by decide +kernel
theorem dX11_newRoof_6 : decode cX11_newRoof 6 = .ok (.invokestatic 84, 3) := by decide +kernel
theorem dX11_newRoof_9 : decode cX11_newRoof 9 = .ok (.istore 5, 2) := by decide +kernel
theorem dX11_newRoof_11 : decode cX11_newRoof 11 = .ok (.aload_n 0, 1) := by decide +kernel
theorem dX11_newRoof_12 : decode cX11_newRoof 12 = .ok (.getfield 9, 3) := by decide +kernel
theorem dX11_newRoof_15 : decode cX11_newRoof 15 = .ok (.iload 5, 2) := by decide +kernel
theorem dX11_newRoof_17 : decode cX11_newRoof 17 = .ok (.aload_n 0, 1) := by decide +kernel
theorem dX11_newRoof_18 : decode cX11_newRoof 18 = .ok (.getfield 63, 3) := by decide +kernel
theorem dX11_newRoof_21 : decode cX11_newRoof 21 = .ok (.iastore, 1) := by decide +kernel
theorem dX11_newRoof_22 : decode cX11_newRoof 22 = .ok (.iconst 0, 1) := by decide +kernel
theorem dX11_newRoof_23 : decode cX11_newRoof 23 = .ok (.istore 6, 2) := by decide +kernel
theorem dX11_newRoof_25 : decode cX11_newRoof 25 = .ok (.iload 6, 2) := by decide +kernel
theorem dX11_newRoof_27 : decode cX11_newRoof 27 = .ok (.aload_n 0, 1) := by decide +kernel
theorem dX11_newRoof_28 : decode cX11_newRoof 28 = .ok (.getfield 63, 3) := by decide +kernel
theorem dX11_newRoof_31 : decode cX11_newRoof 31 = .ok (.if_icmp .ge 28, 3) := by decide +kernel
theorem dX11_newRoof_34 : decode cX11_newRoof 34 = .ok (.aload_n 0, 1) := by decide +kernel
theorem dX11_newRoof_35 : decode cX11_newRoof 35 = .ok (.getfield 9, 3) := by decide +kernel
theorem dX11_newRoof_38 : decode cX11_newRoof 38 = .ok (.iload 5, 2) := by decide +kernel
theorem dX11_newRoof_40 : decode cX11_newRoof 40 = .ok (.iconst 1, 1) := by decide +kernel
theorem dX11_newRoof_41 : decode cX11_newRoof 41 = .ok (.iadd, 1) := by decide +kernel
theorem dX11_newRoof_42 : decode cX11_newRoof 42 = .ok (.iload 6, 2) := by decide +kernel
theorem dX11_newRoof_44 : decode cX11_newRoof 44 = .ok (.iadd, 1) := by decide +kernel
theorem dX11_newRoof_45 : decode cX11_newRoof 45 = .ok (.aload_n 0, 1) := by decide +kernel
theorem dX11_newRoof_46 : decode cX11_newRoof 46 = .ok (.getfield 22, 3) := by decide +kernel
theorem dX11_newRoof_49 : decode cX11_newRoof 49 = .ok (.iload 6, 2) := by decide +kernel
theorem dX11_newRoof_51 : decode cX11_newRoof 51 = .ok (.iaload, 1) := by decide +kernel
theorem dX11_newRoof_52 : decode cX11_newRoof 52 = .ok (.iastore, 1) := by decide +kernel
theorem dX11_newRoof_53 : decode cX11_newRoof 53 = .ok (.iinc 6 1, 3) := by decide +kernel
theorem dX11_newRoof_56 : decode cX11_newRoof 56 = .ok (.goto (-31), 3) := by decide +kernel
theorem dX11_newRoof_59 : decode cX11_newRoof 59 = .ok (.aload_n 0, 1) := by decide +kernel
theorem dX11_newRoof_60 : decode cX11_newRoof 60 = .ok (.getfield 9, 3) := by decide +kernel
theorem dX11_newRoof_63 : decode cX11_newRoof 63 = .ok (.iload 5, 2) := by decide +kernel
theorem dX11_newRoof_65 : decode cX11_newRoof 65 = .ok (.bipush 7, 2) := by decide +kernel
theorem dX11_newRoof_67 : decode cX11_newRoof 67 = .ok (.iadd, 1) := by decide +kernel
theorem dX11_newRoof_68 : decode cX11_newRoof 68 = .ok (.iload_n 1, 1) := by decide +kernel
theorem dX11_newRoof_69 : decode cX11_newRoof 69 = .ok (.iastore, 1) := by decide +kernel
theorem dX11_newRoof_70 : decode cX11_newRoof 70 = .ok (.aload_n 0, 1) := by decide +kernel
theorem dX11_newRoof_71 : decode cX11_newRoof 71 = .ok (.getfield 9, 3) := by decide +kernel
theorem dX11_newRoof_74 : decode cX11_newRoof 74 = .ok (.iload 5, 2) := by decide +kernel
theorem dX11_newRoof_76 : decode cX11_newRoof 76 = .ok (.bipush 8, 2) := by decide +kernel
theorem dX11_newRoof_78 : decode cX11_newRoof 78 = .ok (.iadd, 1) := by decide +kernel
theorem dX11_newRoof_79 : decode cX11_newRoof 79 = .ok (.iload_n 2, 1) := by decide +kernel
theorem dX11_newRoof_80 : decode cX11_newRoof 80 = .ok (.iastore, 1) := by decide +kernel
theorem dX11_newRoof_81 : decode cX11_newRoof 81 = .ok (.aload_n 0, 1) := by decide +kernel
theorem dX11_newRoof_82 : decode cX11_newRoof 82 = .ok (.getfield 9, 3) := by decide +kernel
theorem dX11_newRoof_85 : decode cX11_newRoof 85 = .ok (.iload 5, 2) := by decide +kernel
theorem dX11_newRoof_87 : decode cX11_newRoof 87 = .ok (.bipush 9, 2) := by decide +kernel
theorem dX11_newRoof_89 : decode cX11_newRoof 89 = .ok (.iadd, 1) := by decide +kernel
theorem dX11_newRoof_90 : decode cX11_newRoof 90 = .ok (.iload_n 3, 1) := by decide +kernel
theorem dX11_newRoof_91 : decode cX11_newRoof 91 = .ok (.iastore, 1) := by decide +kernel
theorem dX11_newRoof_92 : decode cX11_newRoof 92 = .ok (.aload_n 0, 1) := by decide +kernel
theorem dX11_newRoof_93 : decode cX11_newRoof 93 = .ok (.getfield 9, 3) := by decide +kernel
theorem dX11_newRoof_96 : decode cX11_newRoof 96 = .ok (.iload 5, 2) := by decide +kernel
theorem dX11_newRoof_98 : decode cX11_newRoof 98 = .ok (.bipush 10, 2) := by decide +kernel
theorem dX11_newRoof_100 : decode cX11_newRoof 100 = .ok (.iadd, 1) := by decide +kernel
theorem dX11_newRoof_101 : decode cX11_newRoof 101 = .ok (.iload 4, 2) := by decide +kernel
theorem dX11_newRoof_103 : decode cX11_newRoof 103 = .ok (.iastore, 1) := by decide +kernel
theorem dX11_newRoof_104 : decode cX11_newRoof 104 = .ok (.aload_n 0, 1) := by decide +kernel
theorem dX11_newRoof_105 : decode cX11_newRoof 105 = .ok (.getfield 9, 3) := by decide +kernel
theorem dX11_newRoof_108 : decode cX11_newRoof 108 = .ok (.bipush 7, 2) := by decide +kernel
theorem dX11_newRoof_110 : decode cX11_newRoof 110 = .ok (.dup2, 1) := by decide +kernel
theorem dX11_newRoof_111 : decode cX11_newRoof 111 = .ok (.iaload, 1) := by decide +kernel
theorem dX11_newRoof_112 : decode cX11_newRoof 112 = .ok (.iload 4, 2) := by decide +kernel
theorem dX11_newRoof_114 : decode cX11_newRoof 114 = .ok (.iadd, 1) := by decide +kernel
theorem dX11_newRoof_115 : decode cX11_newRoof 115 = .ok (.iastore, 1) := by decide +kernel
theorem dX11_newRoof_116 : decode cX11_newRoof 116 = .ok (.aload_n 0, 1) := by decide +kernel
theorem dX11_newRoof_117 : decode cX11_newRoof 117 = .ok (.getfield 9, 3) := by decide +kernel
theorem dX11_newRoof_120 : decode cX11_newRoof 120 = .ok (.iconst 0, 1) := by decide +kernel
theorem dX11_newRoof_121 : decode cX11_newRoof 121 = .ok (.dup2, 1) := by decide +kernel
theorem dX11_newRoof_122 : decode cX11_newRoof 122 = .ok (.iaload, 1) := by decide +kernel
theorem dX11_newRoof_123 : decode cX11_newRoof 123 = .ok (.iconst 1, 1) := by decide +kernel
theorem dX11_newRoof_124 : decode cX11_newRoof 124 = .ok (.iadd, 1) := by decide +kernel
theorem dX11_newRoof_125 : decode cX11_newRoof 125 = .ok (.iastore, 1) := by decide +kernel
theorem dX11_newRoof_126 : decode cX11_newRoof 126 = .ok (.return_, 1) := by decide +kernel
theorem dX11_newWay_0 : decode cX11_newWay 0 = .ok (.aload_n 0, 1) := by decide +kernel
theorem dX11_newWay_1 : decode cX11_newWay 1 = .ok (.getfield 9, 3) := by decide +kernel
theorem dX11_newWay_4 : decode cX11_newWay 4 = .ok (.aload_n 0, 1) := by decide +kernel
theorem dX11_newWay_5 : decode cX11_newWay 5 = .ok (.getfield 9, 3) := by decide +kernel
theorem dX11_newWay_8 : decode cX11_newWay 8 = .ok (.iconst 1, 1) := by decide +kernel
theorem dX11_newWay_9 : decode cX11_newWay 9 = .ok (.iaload, 1) := by decide +kernel
theorem dX11_newWay_10 : decode cX11_newWay 10 = .ok (.invokestatic 88, 3) := by decide +kernel
theorem dX11_newWay_13 : decode cX11_newWay 13 = .ok (.iload_n 1, 1) := by decide +kernel
theorem dX11_newWay_14 : decode cX11_newWay 14 = .ok (.iastore, 1) := by decide +kernel
theorem dX11_newWay_15 : decode cX11_newWay 15 = .ok (.aload_n 0, 1) := by decide +kernel
theorem dX11_newWay_16 : decode cX11_newWay 16 = .ok (.getfield 9, 3) := by decide +kernel
theorem dX11_newWay_19 : decode cX11_newWay 19 = .ok (.aload_n 0, 1) := by decide +kernel
theorem dX11_newWay_20 : decode cX11_newWay 20 = .ok (.getfield 9, 3) := by decide +kernel
theorem dX11_newWay_23 : decode cX11_newWay 23 = .ok (.iconst 1, 1) := by decide +kernel
theorem dX11_newWay_24 : decode cX11_newWay 24 = .ok (.iaload, 1) := by decide +kernel
theorem dX11_newWay_25 : decode cX11_newWay 25 = .ok (.invokestatic 88, 3) := by decide +kernel
theorem dX11_newWay_28 : decode cX11_newWay 28 = .ok (.iconst 1, 1) := by decide +kernel
theorem dX11_newWay_29 : decode cX11_newWay 29 = .ok (.iadd, 1) := by decide +kernel
theorem dX11_newWay_30 : decode cX11_newWay 30 = .ok (.iload_n 2, 1) := by decide +kernel
theorem dX11_newWay_31 : decode cX11_newWay 31 = .ok (.iastore, 1) := by decide +kernel
theorem dX11_newWay_32 : decode cX11_newWay 32 = .ok (.aload_n 0, 1) := by decide +kernel
theorem dX11_newWay_33 : decode cX11_newWay 33 = .ok (.getfield 9, 3) := by decide +kernel
theorem dX11_newWay_36 : decode cX11_newWay 36 = .ok (.aload_n 0, 1) := by decide +kernel
theorem dX11_newWay_37 : decode cX11_newWay 37 = .ok (.getfield 9, 3) := by decide +kernel
theorem dX11_newWay_40 : decode cX11_newWay 40 = .ok (.iconst 1, 1) := by decide +kernel
theorem dX11_newWay_41 : decode cX11_newWay 41 = .ok (.iaload, 1) := by decide +kernel
theorem dX11_newWay_42 : decode cX11_newWay 42 = .ok (.invokestatic 88, 3) := by decide +kernel
theorem dX11_newWay_45 : decode cX11_newWay 45 = .ok (.iconst 2, 1) := by decide +kernel
theorem dX11_newWay_46 : decode cX11_newWay 46 = .ok (.iadd, 1) := by decide +kernel
theorem dX11_newWay_47 : decode cX11_newWay 47 = .ok (.iload_n 3, 1) := by decide +kernel
theorem dX11_newWay_48 : decode cX11_newWay 48 = .ok (.iastore, 1) := by decide +kernel
theorem dX11_newWay_49 : decode cX11_newWay 49 = .ok (.aload_n 0, 1) := by decide +kernel
theorem dX11_newWay_50 : decode cX11_newWay 50 = .ok (.getfield 9, 3) := by decide +kernel
theorem dX11_newWay_53 : decode cX11_newWay 53 = .ok (.iconst 1, 1) := by decide +kernel
theorem dX11_newWay_54 : decode cX11_newWay 54 = .ok (.dup2, 1) := by decide +kernel
theorem dX11_newWay_55 : decode cX11_newWay 55 = .ok (.iaload, 1) := by decide +kernel
theorem dX11_newWay_56 : decode cX11_newWay 56 = .ok (.iconst 1, 1) := by decide +kernel
theorem dX11_newWay_57 : decode cX11_newWay 57 = .ok (.iadd, 1) := by decide +kernel
theorem dX11_newWay_58 : decode cX11_newWay 58 = .ok (.iastore, 1) := by decide +kernel
theorem dX11_newWay_59 : decode cX11_newWay 59 = .ok (.return_, 1) := by decide +kernel
theorem dX11_ends_0 : decode cX11_ends 0 = .ok (.aload_n 0, 1) := by decide +kernel
theorem dX11_ends_1 : decode cX11_ends 1 = .ok (.getfield 9, 3) := by decide +kernel
theorem dX11_ends_4 : decode cX11_ends 4 = .ok (.iload_n 1, 1) := by decide +kernel
theorem dX11_ends_5 : decode cX11_ends 5 = .ok (.invokestatic 88, 3) := by decide +kernel
theorem dX11_ends_8 : decode cX11_ends 8 = .ok (.iaload, 1) := by decide +kernel
theorem dX11_ends_9 : decode cX11_ends 9 = .ok (.iload_n 2, 1) := by decide +kernel
theorem dX11_ends_10 : decode cX11_ends 10 = .ok (.if_icmp .eq 18, 3) := by decide +kernel
theorem dX11_ends_13 : decode cX11_ends 13 = .ok (.aload_n 0, 1) := by decide +kernel
theorem dX11_ends_14 : decode cX11_ends 14 = .ok (.getfield 9, 3) := by decide +kernel
theorem dX11_ends_17 : decode cX11_ends 17 = .ok (.iload_n 1, 1) := by decide +kernel
theorem dX11_ends_18 : decode cX11_ends 18 = .ok (.invokestatic 88, 3) := by decide +kernel
theorem dX11_ends_21 : decode cX11_ends 21 = .ok (.iconst 1, 1) := by decide +kernel
theorem dX11_ends_22 : decode cX11_ends 22 = .ok (.iadd, 1) := by decide +kernel
theorem dX11_ends_23 : decode cX11_ends 23 = .ok (.iaload, 1) := by decide +kernel
theorem dX11_ends_24 : decode cX11_ends 24 = .ok (.iload_n 2, 1) := by decide +kernel
theorem dX11_ends_25 : decode cX11_ends 25 = .ok (.if_icmp .ne 7, 3) := by decide +kernel
theorem dX11_ends_28 : decode cX11_ends 28 = .ok (.iconst 1, 1) := by decide +kernel
theorem dX11_ends_29 : decode cX11_ends 29 = .ok (.goto 4, 3) := by decide +kernel
theorem dX11_ends_32 : decode cX11_ends 32 = .ok (.iconst 0, 1) := by decide +kernel
theorem dX11_ends_33 : decode cX11_ends 33 = .ok (.ireturn, 1) := by decide +kernel
theorem dX11_otherEnd_0 : decode cX11_otherEnd 0 = .ok (.aload_n 0, 1) := by decide +kernel
theorem dX11_otherEnd_1 : decode cX11_otherEnd 1 = .ok (.getfield 9, 3) := by decide +kernel
theorem dX11_otherEnd_4 : decode cX11_otherEnd 4 = .ok (.iload_n 1, 1) := by decide +kernel
theorem dX11_otherEnd_5 : decode cX11_otherEnd 5 = .ok (.invokestatic 88, 3) := by decide +kernel
theorem dX11_otherEnd_8 : decode cX11_otherEnd 8 = .ok (.iaload, 1) := by decide +kernel
theorem dX11_otherEnd_9 : decode cX11_otherEnd 9 = .ok (.aload_n 0, 1) := by decide +kernel
theorem dX11_otherEnd_10 : decode cX11_otherEnd 10 = .ok (.getfield 9, 3) := by decide +kernel
theorem dX11_otherEnd_13 : decode cX11_otherEnd 13 = .ok (.iload_n 1, 1) := by decide +kernel
theorem dX11_otherEnd_14 : decode cX11_otherEnd 14 = .ok (.invokestatic 88, 3) := by decide +kernel
theorem dX11_otherEnd_17 : decode cX11_otherEnd 17 = .ok (.iconst 1, 1) := by decide +kernel
theorem dX11_otherEnd_18 : decode cX11_otherEnd 18 = .ok (.iadd, 1) := by decide +kernel
theorem dX11_otherEnd_19 : decode cX11_otherEnd 19 = .ok (.iaload, 1) := by decide +kernel
theorem dX11_otherEnd_20 : decode cX11_otherEnd 20 = .ok (.iadd, 1) := by decide +kernel
theorem dX11_otherEnd_21 : decode cX11_otherEnd 21 = .ok (.iload_n 2, 1) := by decide +kernel
theorem dX11_otherEnd_22 : decode cX11_otherEnd 22 = .ok (.isub, 1) := by decide +kernel
theorem dX11_otherEnd_23 : decode cX11_otherEnd 23 = .ok (.ireturn, 1) := by decide +kernel
theorem dX11_wayBetween_0 : decode cX11_wayBetween 0 = .ok (.iconst 0, 1) := by decide +kernel
theorem dX11_wayBetween_1 : decode cX11_wayBetween 1 = .ok (.istore_n 3, 1) := by decide +kernel
theorem dX11_wayBetween_2 : decode cX11_wayBetween 2 = .ok (.iload_n 3, 1) := by decide +kernel
theorem dX11_wayBetween_3 : decode cX11_wayBetween 3 = .ok (.aload_n 0, 1) := by decide +kernel
theorem dX11_wayBetween_4 : decode cX11_wayBetween 4 = .ok (.getfield 9, 3) := by decide +kernel
theorem dX11_wayBetween_7 : decode cX11_wayBetween 7 = .ok (.iconst 1, 1) := by decide +kernel
theorem dX11_wayBetween_8 : decode cX11_wayBetween 8 = .ok (.iaload, 1) := by decide +kernel
theorem dX11_wayBetween_9 : decode cX11_wayBetween 9 = .ok (.if_icmp .ge 34, 3) := by decide +kernel
theorem dX11_wayBetween_12 : decode cX11_wayBetween 12 = .ok (.iload_n 1, 1) := by decide +kernel
theorem dX11_wayBetween_13 : decode cX11_wayBetween 13 = .ok (.iload_n 2, 1) := by decide +kernel
theorem dX11_wayBetween_14 : decode cX11_wayBetween 14 = .ok (.if_icmp .eq 23, 3) := by decide +kernel
theorem dX11_wayBetween_17 : decode cX11_wayBetween 17 = .ok (.aload_n 0, 1) := by decide +kernel
theorem dX11_wayBetween_18 : decode cX11_wayBetween 18 = .ok (.iload_n 3, 1) := by decide +kernel
theorem dX11_wayBetween_19 : decode cX11_wayBetween 19 = .ok (.iload_n 1, 1) := by decide +kernel
theorem dX11_wayBetween_20 : decode cX11_wayBetween 20 = .ok (.invokevirtual 91, 3) := by decide +kernel
theorem dX11_wayBetween_23 : decode cX11_wayBetween 23 = .ok (.ifCond .eq 14, 3) := by decide +kernel
theorem dX11_wayBetween_26 : decode cX11_wayBetween 26 = .ok (.aload_n 0, 1) := by decide +kernel
theorem dX11_wayBetween_27 : decode cX11_wayBetween 27 = .ok (.iload_n 3, 1) := by decide +kernel
theorem dX11_wayBetween_28 : decode cX11_wayBetween 28 = .ok (.iload_n 2, 1) := by decide +kernel
theorem dX11_wayBetween_29 : decode cX11_wayBetween 29 = .ok (.invokevirtual 91, 3) := by decide +kernel
theorem dX11_wayBetween_32 : decode cX11_wayBetween 32 = .ok (.ifCond .eq 5, 3) := by decide +kernel
theorem dX11_wayBetween_35 : decode cX11_wayBetween 35 = .ok (.iload_n 3, 1) := by decide +kernel
theorem dX11_wayBetween_36 : decode cX11_wayBetween 36 = .ok (.ireturn, 1) := by decide +kernel
theorem dX11_wayBetween_37 : decode cX11_wayBetween 37 = .ok (.iinc 3 1, 3) := by decide +kernel
theorem dX11_wayBetween_40 : decode cX11_wayBetween 40 = .ok (.goto (-38), 3) := by decide +kernel
theorem dX11_wayBetween_43 : decode cX11_wayBetween 43 = .ok (.iconst (-1), 1) := by decide +kernel
theorem dX11_wayBetween_44 : decode cX11_wayBetween 44 = .ok (.ireturn, 1) := by decide +kernel
theorem dX11_isNearer_0 : decode cX11_isNearer 0 = .ok (.aload_n 0, 1) := by decide +kernel
theorem dX11_isNearer_1 : decode cX11_isNearer 1 = .ok (.getfield 25, 3) := by decide +kernel
theorem dX11_isNearer_4 : decode cX11_isNearer 4 = .ok (.aload_n 0, 1) := by decide +kernel
theorem dX11_isNearer_5 : decode cX11_isNearer 5 = .ok (.iload_n 1, 1) := by decide +kernel
theorem dX11_isNearer_6 : decode cX11_isNearer 6 = .ok (.iload_n 2, 1) := by decide +kernel
theorem dX11_isNearer_7 : decode cX11_isNearer 7 = .ok (.invokevirtual 95, 3) := by decide +kernel
theorem dX11_isNearer_10 : decode cX11_isNearer 10 = .ok (.iaload, 1) := by decide +kernel
theorem dX11_isNearer_11 : decode cX11_isNearer 11 = .ok (.istore_n 3, 1) := by decide +kernel
theorem dX11_isNearer_12 : decode cX11_isNearer 12 = .ok (.iload_n 3, 1) := by decide +kernel
theorem dX11_isNearer_13 : decode cX11_isNearer 13 = .ok (.aload_n 0, 1) := by decide +kernel
theorem dX11_isNearer_14 : decode cX11_isNearer 14 = .ok (.getfield 9, 3) := by decide +kernel
theorem dX11_isNearer_17 : decode cX11_isNearer 17 = .ok (.iload_n 1, 1) := by decide +kernel
theorem dX11_isNearer_18 : decode cX11_isNearer 18 = .ok (.invokestatic 88, 3) := by decide +kernel
theorem dX11_isNearer_21 : decode cX11_isNearer 21 = .ok (.iconst 2, 1) := by decide +kernel
theorem dX11_isNearer_22 : decode cX11_isNearer 22 = .ok (.iadd, 1) := by decide +kernel
theorem dX11_isNearer_23 : decode cX11_isNearer 23 = .ok (.iaload, 1) := by decide +kernel
theorem dX11_isNearer_24 : decode cX11_isNearer 24 = .ok (.iadd, 1) := by decide +kernel
theorem dX11_isNearer_25 : decode cX11_isNearer 25 = .ok (.istore 4, 2) := by decide +kernel
theorem dX11_isNearer_27 : decode cX11_isNearer 27 = .ok (.iload_n 3, 1) := by decide +kernel
theorem dX11_isNearer_28 : decode cX11_isNearer 28 = .ok (.iconst (-1), 1) := by decide +kernel
theorem dX11_isNearer_29 : decode cX11_isNearer 29 = .ok (.if_icmp .eq 24, 3) := by decide +kernel
theorem dX11_isNearer_32 : decode cX11_isNearer 32 = .ok (.aload_n 0, 1) := by decide +kernel
theorem dX11_isNearer_33 : decode cX11_isNearer 33 = .ok (.getfield 25, 3) := by decide +kernel
theorem dX11_isNearer_36 : decode cX11_isNearer 36 = .ok (.iload_n 2, 1) := by decide +kernel
theorem dX11_isNearer_37 : decode cX11_isNearer 37 = .ok (.iaload, 1) := by decide +kernel
theorem dX11_isNearer_38 : decode cX11_isNearer 38 = .ok (.iconst (-1), 1) := by decide +kernel
theorem dX11_isNearer_39 : decode cX11_isNearer 39 = .ok (.if_icmp .eq 16, 3) := by decide +kernel
theorem dX11_isNearer_42 : decode cX11_isNearer 42 = .ok (.aload_n 0, 1) := by decide +kernel
theorem dX11_isNearer_43 : decode cX11_isNearer 43 = .ok (.getfield 25, 3) := by decide +kernel
theorem dX11_isNearer_46 : decode cX11_isNearer 46 = .ok (.iload_n 2, 1) := by decide +kernel
theorem dX11_isNearer_47 : decode cX11_isNearer 47 = .ok (.iaload, 1) := by decide +kernel
theorem dX11_isNearer_48 : decode cX11_isNearer 48 = .ok (.iload 4, 2) := by decide +kernel
theorem dX11_isNearer_50 : decode cX11_isNearer 50 = .ok (.if_icmp .gt 5, 3) := by decide +kernel
theorem dX11_isNearer_53 : decode cX11_isNearer 53 = .ok (.iconst 0, 1) := by decide +kernel
theorem dX11_isNearer_54 : decode cX11_isNearer 54 = .ok (.ireturn, 1) := by decide +kernel
theorem dX11_isNearer_55 : decode cX11_isNearer 55 = .ok (.aload_n 0, 1) := by decide +kernel
theorem dX11_isNearer_56 : decode cX11_isNearer 56 = .ok (.getfield 25, 3) := by decide +kernel
theorem dX11_isNearer_59 : decode cX11_isNearer 59 = .ok (.iload_n 2, 1) := by decide +kernel
theorem dX11_isNearer_60 : decode cX11_isNearer 60 = .ok (.iload 4, 2) := by decide +kernel
theorem dX11_isNearer_62 : decode cX11_isNearer 62 = .ok (.iastore, 1) := by decide +kernel
theorem dX11_isNearer_63 : decode cX11_isNearer 63 = .ok (.iconst 1, 1) := by decide +kernel
theorem dX11_isNearer_64 : decode cX11_isNearer 64 = .ok (.ireturn, 1) := by decide +kernel
theorem dX11_reckons_0 : decode cX11_reckons 0 = .ok (.iconst 0, 1) := by decide +kernel
theorem dX11_reckons_1 : decode cX11_reckons 1 = .ok (.istore_n 3, 1) := by decide +kernel
theorem dX11_reckons_2 : decode cX11_reckons 2 = .ok (.iload_n 3, 1) := by decide +kernel
theorem dX11_reckons_3 : decode cX11_reckons 3 = .ok (.bipush 10, 2) := by decide +kernel
theorem dX11_reckons_5 : decode cX11_reckons 5 = .ok (.if_icmp .ge 25, 3) := by decide +kernel
theorem dX11_reckons_8 : decode cX11_reckons 8 = .ok (.aload_n 0, 1) := by decide +kernel
theorem dX11_reckons_9 : decode cX11_reckons 9 = .ok (.getfield 25, 3) := by decide +kernel
theorem dX11_reckons_12 : decode cX11_reckons 12 = .ok (.iload_n 3, 1) := by decide +kernel
theorem dX11_reckons_13 : decode cX11_reckons 13 = .ok (.iload_n 3, 1) := by decide +kernel
theorem dX11_reckons_14 : decode cX11_reckons 14 = .ok (.iload_n 1, 1) := by decide +kernel
theorem dX11_reckons_15 : decode cX11_reckons 15 = .ok (.if_icmp .ne 7, 3) := by decide +kernel
theorem dX11_reckons_18 : decode cX11_reckons 18 = .ok (.iconst 0, 1) := by decide +kernel
theorem dX11_reckons_19 : decode cX11_reckons 19 = .ok (.goto 4, 3) := by decide +kernel
theorem dX11_reckons_22 : decode cX11_reckons 22 = .ok (.iconst (-1), 1) := by decide +kernel
theorem dX11_reckons_23 : decode cX11_reckons 23 = .ok (.iastore, 1) := by decide +kernel
theorem dX11_reckons_24 : decode cX11_reckons 24 = .ok (.iinc 3 1, 3) := by decide +kernel
theorem dX11_reckons_27 : decode cX11_reckons 27 = .ok (.goto (-25), 3) := by decide +kernel
theorem dX11_reckons_30 : decode cX11_reckons 30 = .ok (.iconst 1, 1) := by decide +kernel
theorem dX11_reckons_31 : decode cX11_reckons 31 = .ok (.istore_n 3, 1) := by decide +kernel
theorem dX11_reckons_32 : decode cX11_reckons 32 = .ok (.iload_n 3, 1) := by decide +kernel
theorem dX11_reckons_33 : decode cX11_reckons 33 = .ok (.ifCond .eq 74, 3) := by decide +kernel
theorem dX11_reckons_36 : decode cX11_reckons 36 = .ok (.iconst 0, 1) := by decide +kernel
theorem dX11_reckons_37 : decode cX11_reckons 37 = .ok (.istore_n 3, 1) := by decide +kernel
theorem dX11_reckons_38 : decode cX11_reckons 38 = .ok (.iconst 0, 1) := by decide +kernel
theorem dX11_reckons_39 : decode cX11_reckons 39 = .ok (.istore 4, 2) := by decide +kernel
theorem dX11_reckons_41 : decode cX11_reckons 41 = .ok (.iload 4, 2) := by decide +kernel
theorem dX11_reckons_43 : decode cX11_reckons 43 = .ok (.aload_n 0, 1) := by decide +kernel
theorem dX11_reckons_44 : decode cX11_reckons 44 = .ok (.getfield 9, 3) := by decide +kernel
theorem dX11_reckons_47 : decode cX11_reckons 47 = .ok (.iconst 1, 1) := by decide +kernel
theorem dX11_reckons_48 : decode cX11_reckons 48 = .ok (.iaload, 1) := by decide +kernel
theorem dX11_reckons_49 : decode cX11_reckons 49 = .ok (.if_icmp .ge 55, 3) := by decide +kernel
theorem dX11_reckons_52 : decode cX11_reckons 52 = .ok (.iload 4, 2) := by decide +kernel
theorem dX11_reckons_54 : decode cX11_reckons 54 = .ok (.iload_n 2, 1) := by decide +kernel
theorem dX11_reckons_55 : decode cX11_reckons 55 = .ok (.if_icmp .eq 43, 3) := by decide +kernel
theorem dX11_reckons_58 : decode cX11_reckons 58 = .ok (.iload_n 3, 1) := by decide +kernel
theorem dX11_reckons_59 : decode cX11_reckons 59 = .ok (.aload_n 0, 1) := by decide +kernel
theorem dX11_reckons_60 : decode cX11_reckons 60 = .ok (.iload 4, 2) := by decide +kernel
theorem dX11_reckons_62 : decode cX11_reckons 62 = .ok (.aload_n 0, 1) := by decide +kernel
theorem dX11_reckons_63 : decode cX11_reckons 63 = .ok (.getfield 9, 3) := by decide +kernel
theorem dX11_reckons_66 : decode cX11_reckons 66 = .ok (.iload 4, 2) := by decide +kernel
theorem dX11_reckons_68 : decode cX11_reckons 68 = .ok (.invokestatic 88, 3) := by decide +kernel
theorem dX11_reckons_71 : decode cX11_reckons 71 = .ok (.iaload, 1) := by decide +kernel
theorem dX11_reckons_72 : decode cX11_reckons 72 = .ok (.invokevirtual 99, 3) := by decide +kernel
theorem dX11_reckons_75 : decode cX11_reckons 75 = .ok (.ior, 1) := by decide +kernel
theorem dX11_reckons_76 : decode cX11_reckons 76 = .ok (.istore_n 3, 1) := by decide +kernel
theorem dX11_reckons_77 : decode cX11_reckons 77 = .ok (.iload_n 3, 1) := by decide +kernel
theorem dX11_reckons_78 : decode cX11_reckons 78 = .ok (.aload_n 0, 1) := by decide +kernel
theorem dX11_reckons_79 : decode cX11_reckons 79 = .ok (.iload 4, 2) := by decide +kernel
theorem dX11_reckons_81 : decode cX11_reckons 81 = .ok (.aload_n 0, 1) := by decide +kernel
theorem dX11_reckons_82 : decode cX11_reckons 82 = .ok (.getfield 9, 3) := by decide +kernel
theorem dX11_reckons_85 : decode cX11_reckons 85 = .ok (.iload 4, 2) := by decide +kernel
theorem dX11_reckons_87 : decode cX11_reckons 87 = .ok (.invokestatic 88, 3) := by decide +kernel
theorem dX11_reckons_90 : decode cX11_reckons 90 = .ok (.iconst 1, 1) := by decide +kernel
theorem dX11_reckons_91 : decode cX11_reckons 91 = .ok (.iadd, 1) := by decide +kernel
theorem dX11_reckons_92 : decode cX11_reckons 92 = .ok (.iaload, 1) := by decide +kernel
theorem dX11_reckons_93 : decode cX11_reckons 93 = .ok (.invokevirtual 99, 3) := by decide +kernel
theorem dX11_reckons_96 : decode cX11_reckons 96 = .ok (.ior, 1) := by decide +kernel
theorem dX11_reckons_97 : decode cX11_reckons 97 = .ok (.istore_n 3, 1) := by decide +kernel
theorem dX11_reckons_98 : decode cX11_reckons 98 = .ok (.iinc 4 1, 3) := by decide +kernel
theorem dX11_reckons_101 : decode cX11_reckons 101 = .ok (.goto (-60), 3) := by decide +kernel
theorem dX11_reckons_104 : decode cX11_reckons 104 = .ok (.goto (-72), 3) := by decide +kernel
theorem dX11_reckons_107 : decode cX11_reckons 107 = .ok (.return_, 1) := by decide +kernel
theorem dX11_sumTo_0 : decode cX11_sumTo 0 = .ok (.aload_n 0, 1) := by decide +kernel
theorem dX11_sumTo_1 : decode cX11_sumTo 1 = .ok (.iload_n 2, 1) := by decide +kernel
theorem dX11_sumTo_2 : decode cX11_sumTo 2 = .ok (.iconst (-1), 1) := by decide +kernel
theorem dX11_sumTo_3 : decode cX11_sumTo 3 = .ok (.invokevirtual 102, 3) := by decide +kernel
theorem dX11_sumTo_6 : decode cX11_sumTo 6 = .ok (.aload_n 0, 1) := by decide +kernel
theorem dX11_sumTo_7 : decode cX11_sumTo 7 = .ok (.getfield 25, 3) := by decide +kernel
theorem dX11_sumTo_10 : decode cX11_sumTo 10 = .ok (.iload_n 1, 1) := by decide +kernel
theorem dX11_sumTo_11 : decode cX11_sumTo 11 = .ok (.iaload, 1) := by decide +kernel
theorem dX11_sumTo_12 : decode cX11_sumTo 12 = .ok (.ireturn, 1) := by decide +kernel
theorem dX11_nextTo_0 : decode cX11_nextTo 0 = .ok (.iload_n 1, 1) := by decide +kernel
theorem dX11_nextTo_1 : decode cX11_nextTo 1 = .ok (.iload_n 2, 1) := by decide +kernel
theorem dX11_nextTo_2 : decode cX11_nextTo 2 = .ok (.if_icmp .eq 13, 3) := by decide +kernel
theorem dX11_nextTo_5 : decode cX11_nextTo 5 = .ok (.aload_n 0, 1) := by decide +kernel
theorem dX11_nextTo_6 : decode cX11_nextTo 6 = .ok (.iload_n 1, 1) := by decide +kernel
theorem dX11_nextTo_7 : decode cX11_nextTo 7 = .ok (.iload_n 2, 1) := by decide +kernel
theorem dX11_nextTo_8 : decode cX11_nextTo 8 = .ok (.invokevirtual 106, 3) := by decide +kernel
theorem dX11_nextTo_11 : decode cX11_nextTo 11 = .ok (.iconst (-1), 1) := by decide +kernel
theorem dX11_nextTo_12 : decode cX11_nextTo 12 = .ok (.if_icmp .ne 5, 3) := by decide +kernel
theorem dX11_nextTo_15 : decode cX11_nextTo 15 = .ok (.iconst (-1), 1) := by decide +kernel
theorem dX11_nextTo_16 : decode cX11_nextTo 16 = .ok (.ireturn, 1) := by decide +kernel
theorem dX11_nextTo_17 : decode cX11_nextTo 17 = .ok (.iconst (-1), 1) := by decide +kernel
theorem dX11_nextTo_18 : decode cX11_nextTo 18 = .ok (.istore_n 3, 1) := by decide +kernel
theorem dX11_nextTo_19 : decode cX11_nextTo 19 = .ok (.iconst 0, 1) := by decide +kernel
theorem dX11_nextTo_20 : decode cX11_nextTo 20 = .ok (.istore 4, 2) := by decide +kernel
theorem dX11_nextTo_22 : decode cX11_nextTo 22 = .ok (.iload 4, 2) := by decide +kernel
theorem dX11_nextTo_24 : decode cX11_nextTo 24 = .ok (.aload_n 0, 1) := by decide +kernel
theorem dX11_nextTo_25 : decode cX11_nextTo 25 = .ok (.getfield 9, 3) := by decide +kernel
theorem dX11_nextTo_28 : decode cX11_nextTo 28 = .ok (.iconst 1, 1) := by decide +kernel
theorem dX11_nextTo_29 : decode cX11_nextTo 29 = .ok (.iaload, 1) := by decide +kernel
theorem dX11_nextTo_30 : decode cX11_nextTo 30 = .ok (.if_icmp .ge 101, 3) := by decide +kernel
theorem dX11_nextTo_33 : decode cX11_nextTo 33 = .ok (.aload_n 0, 1) := by decide +kernel
theorem dX11_nextTo_34 : decode cX11_nextTo 34 = .ok (.iload 4, 2) := by decide +kernel
theorem dX11_nextTo_36 : decode cX11_nextTo 36 = .ok (.iload_n 1, 1) := by decide +kernel
theorem dX11_nextTo_37 : decode cX11_nextTo 37 = .ok (.invokevirtual 91, 3) := by decide +kernel
theorem dX11_nextTo_40 : decode cX11_nextTo 40 = .ok (.ifCond .ne 6, 3) := by decide +kernel
theorem dX11_nextTo_43 : decode cX11_nextTo 43 = .ok (.goto 82, 3) := by decide +kernel
theorem dX11_nextTo_46 : decode cX11_nextTo 46 = .ok (.aload_n 0, 1) := by decide +kernel
theorem dX11_nextTo_47 : decode cX11_nextTo 47 = .ok (.iload 4, 2) := by decide +kernel
theorem dX11_nextTo_49 : decode cX11_nextTo 49 = .ok (.iload_n 1, 1) := by decide +kernel
theorem dX11_nextTo_50 : decode cX11_nextTo 50 = .ok (.invokevirtual 95, 3) := by decide +kernel
theorem dX11_nextTo_53 : decode cX11_nextTo 53 = .ok (.istore 5, 2) := by decide +kernel
theorem dX11_nextTo_55 : decode cX11_nextTo 55 = .ok (.aload_n 0, 1) := by decide +kernel
theorem dX11_nextTo_56 : decode cX11_nextTo 56 = .ok (.getfield 25, 3) := by decide +kernel
theorem dX11_nextTo_59 : decode cX11_nextTo 59 = .ok (.iload 5, 2) := by decide +kernel
theorem dX11_nextTo_61 : decode cX11_nextTo 61 = .ok (.iaload, 1) := by decide +kernel
theorem dX11_nextTo_62 : decode cX11_nextTo 62 = .ok (.iconst (-1), 1) := by decide +kernel
theorem dX11_nextTo_63 : decode cX11_nextTo 63 = .ok (.if_icmp .eq 36, 3) := by decide +kernel
theorem dX11_nextTo_66 : decode cX11_nextTo 66 = .ok (.aload_n 0, 1) := by decide +kernel
theorem dX11_nextTo_67 : decode cX11_nextTo 67 = .ok (.getfield 25, 3) := by decide +kernel
theorem dX11_nextTo_70 : decode cX11_nextTo 70 = .ok (.iload 5, 2) := by decide +kernel
theorem dX11_nextTo_72 : decode cX11_nextTo 72 = .ok (.iaload, 1) := by decide +kernel
theorem dX11_nextTo_73 : decode cX11_nextTo 73 = .ok (.aload_n 0, 1) := by decide +kernel
theorem dX11_nextTo_74 : decode cX11_nextTo 74 = .ok (.getfield 9, 3) := by decide +kernel
theorem dX11_nextTo_77 : decode cX11_nextTo 77 = .ok (.iload 4, 2) := by decide +kernel
theorem dX11_nextTo_79 : decode cX11_nextTo 79 = .ok (.invokestatic 88, 3) := by decide +kernel
theorem dX11_nextTo_82 : decode cX11_nextTo 82 = .ok (.iconst 2, 1) := by decide +kernel
theorem dX11_nextTo_83 : decode cX11_nextTo 83 = .ok (.iadd, 1) := by decide +kernel
theorem dX11_nextTo_84 : decode cX11_nextTo 84 = .ok (.iaload, 1) := by decide +kernel
theorem dX11_nextTo_85 : decode cX11_nextTo 85 = .ok (.iadd, 1) := by decide +kernel
theorem dX11_nextTo_86 : decode cX11_nextTo 86 = .ok (.aload_n 0, 1) := by decide +kernel
theorem dX11_nextTo_87 : decode cX11_nextTo 87 = .ok (.getfield 25, 3) := by decide +kernel
theorem dX11_nextTo_90 : decode cX11_nextTo 90 = .ok (.iload_n 1, 1) := by decide +kernel
theorem dX11_nextTo_91 : decode cX11_nextTo 91 = .ok (.iaload, 1) := by decide +kernel
theorem dX11_nextTo_92 : decode cX11_nextTo 92 = .ok (.if_icmp .ne 7, 3) := by decide +kernel
theorem dX11_nextTo_95 : decode cX11_nextTo 95 = .ok (.iconst 1, 1) := by decide +kernel
theorem dX11_nextTo_96 : decode cX11_nextTo 96 = .ok (.goto 4, 3) := by decide +kernel
theorem dX11_nextTo_99 : decode cX11_nextTo 99 = .ok (.iconst 0, 1) := by decide +kernel
theorem dX11_nextTo_100 : decode cX11_nextTo 100 = .ok (.istore 6, 2) := by decide +kernel
theorem dX11_nextTo_102 : decode cX11_nextTo 102 = .ok (.iload 6, 2) := by decide +kernel
theorem dX11_nextTo_104 : decode cX11_nextTo 104 = .ok (.ifCond .eq 19, 3) := by decide +kernel
theorem dX11_nextTo_107 : decode cX11_nextTo 107 = .ok (.iload_n 3, 1) := by decide +kernel
theorem dX11_nextTo_108 : decode cX11_nextTo 108 = .ok (.iconst (-1), 1) := by decide +kernel
theorem dX11_nextTo_109 : decode cX11_nextTo 109 = .ok (.if_icmp .eq 9, 3) := by decide +kernel
theorem dX11_nextTo_112 : decode cX11_nextTo 112 = .ok (.iload 5, 2) := by decide +kernel
theorem dX11_nextTo_114 : decode cX11_nextTo 114 = .ok (.iload_n 3, 1) := by decide +kernel
theorem dX11_nextTo_115 : decode cX11_nextTo 115 = .ok (.if_icmp .ge 8, 3) := by decide +kernel
theorem dX11_nextTo_118 : decode cX11_nextTo 118 = .ok (.iload 5, 2) := by decide +kernel
theorem dX11_nextTo_120 : decode cX11_nextTo 120 = .ok (.goto 4, 3) := by decide +kernel
theorem dX11_nextTo_123 : decode cX11_nextTo 123 = .ok (.iload_n 3, 1) := by decide +kernel
theorem dX11_nextTo_124 : decode cX11_nextTo 124 = .ok (.istore_n 3, 1) := by decide +kernel
theorem dX11_nextTo_125 : decode cX11_nextTo 125 = .ok (.iinc 4 1, 3) := by decide +kernel
theorem dX11_nextTo_128 : decode cX11_nextTo 128 = .ok (.goto (-106), 3) := by decide +kernel
theorem dX11_nextTo_131 : decode cX11_nextTo 131 = .ok (.iload_n 3, 1) := by decide +kernel
theorem dX11_nextTo_132 : decode cX11_nextTo 132 = .ok (.ireturn, 1) := by decide +kernel
theorem dX11_isBusy_0 : decode cX11_isBusy 0 = .ok (.aload_n 0, 1) := by decide +kernel
theorem dX11_isBusy_1 : decode cX11_isBusy 1 = .ok (.getfield 9, 3) := by decide +kernel
theorem dX11_isBusy_4 : decode cX11_isBusy 4 = .ok (.iload_n 1, 1) := by decide +kernel
theorem dX11_isBusy_5 : decode cX11_isBusy 5 = .ok (.invokestatic 84, 3) := by decide +kernel
theorem dX11_isBusy_8 : decode cX11_isBusy 8 = .ok (.bipush 11, 2) := by decide +kernel
theorem dX11_isBusy_10 : decode cX11_isBusy 10 = .ok (.iadd, 1) := by decide +kernel
theorem dX11_isBusy_11 : decode cX11_isBusy 11 = .ok (.iaload, 1) := by decide +kernel
theorem dX11_isBusy_12 : decode cX11_isBusy 12 = .ok (.iload_n 2, 1) := by decide +kernel
theorem dX11_isBusy_13 : decode cX11_isBusy 13 = .ok (.if_icmp .le 7, 3) := by decide +kernel
theorem dX11_isBusy_16 : decode cX11_isBusy 16 = .ok (.iconst 1, 1) := by decide +kernel
theorem dX11_isBusy_17 : decode cX11_isBusy 17 = .ok (.goto 4, 3) := by decide +kernel
theorem dX11_isBusy_20 : decode cX11_isBusy 20 = .ok (.iconst 0, 1) := by decide +kernel
theorem dX11_isBusy_21 : decode cX11_isBusy 21 = .ok (.ireturn, 1) := by decide +kernel
theorem dX11_barsOf_0 : decode cX11_barsOf 0 = .ok (.iload_n 1, 1) := by decide +kernel
theorem dX11_barsOf_1 : decode cX11_barsOf 1 = .ok (.iconst 3, 1) := by decide +kernel
theorem dX11_barsOf_2 : decode cX11_barsOf 2 = .ok (.iadd, 1) := by decide +kernel
theorem dX11_barsOf_3 : decode cX11_barsOf 3 = .ok (.iconst 4, 1) := by decide +kernel
theorem dX11_barsOf_4 : decode cX11_barsOf 4 = .ok (.idiv, 1) := by decide +kernel
theorem dX11_barsOf_5 : decode cX11_barsOf 5 = .ok (.ireturn, 1) := by decide +kernel
theorem dX11_bars_0 : decode cX11_bars 0 = .ok (.aload_n 0, 1) := by decide +kernel
theorem dX11_bars_1 : decode cX11_bars 1 = .ok (.aload_n 0, 1) := by decide +kernel
theorem dX11_bars_2 : decode cX11_bars 2 = .ok (.getfield 9, 3) := by decide +kernel
theorem dX11_bars_5 : decode cX11_bars 5 = .ok (.iload_n 1, 1) := by decide +kernel
theorem dX11_bars_6 : decode cX11_bars 6 = .ok (.invokestatic 109, 3) := by decide +kernel
theorem dX11_bars_9 : decode cX11_bars 9 = .ok (.iconst 2, 1) := by decide +kernel
theorem dX11_bars_10 : decode cX11_bars 10 = .ok (.iadd, 1) := by decide +kernel
theorem dX11_bars_11 : decode cX11_bars 11 = .ok (.iaload, 1) := by decide +kernel
theorem dX11_bars_12 : decode cX11_bars 12 = .ok (.invokevirtual 112, 3) := by decide +kernel
theorem dX11_bars_15 : decode cX11_bars 15 = .ok (.ireturn, 1) := by decide +kernel
theorem dX11_waitsAt_0 : decode cX11_waitsAt 0 = .ok (.aload_n 0, 1) := by decide +kernel
theorem dX11_waitsAt_1 : decode cX11_waitsAt 1 = .ok (.getfield 9, 3) := by decide +kernel
theorem dX11_waitsAt_4 : decode cX11_waitsAt 4 = .ok (.iload_n 1, 1) := by decide +kernel
theorem dX11_waitsAt_5 : decode cX11_waitsAt 5 = .ok (.invokestatic 109, 3) := by decide +kernel
theorem dX11_waitsAt_8 : decode cX11_waitsAt 8 = .ok (.iconst 3, 1) := by decide +kernel
theorem dX11_waitsAt_9 : decode cX11_waitsAt 9 = .ok (.iadd, 1) := by decide +kernel
theorem dX11_waitsAt_10 : decode cX11_waitsAt 10 = .ok (.iaload, 1) := by decide +kernel
theorem dX11_waitsAt_11 : decode cX11_waitsAt 11 = .ok (.ifCond .ne 22, 3) := by decide +kernel
theorem dX11_waitsAt_14 : decode cX11_waitsAt 14 = .ok (.aload_n 0, 1) := by decide +kernel
theorem dX11_waitsAt_15 : decode cX11_waitsAt 15 = .ok (.getfield 9, 3) := by decide +kernel
theorem dX11_waitsAt_18 : decode cX11_waitsAt 18 = .ok (.iload_n 1, 1) := by decide +kernel
theorem dX11_waitsAt_19 : decode cX11_waitsAt 19 = .ok (.invokestatic 109, 3) := by decide +kernel
theorem dX11_waitsAt_22 : decode cX11_waitsAt 22 = .ok (.iconst 4, 1) := by decide +kernel
theorem dX11_waitsAt_23 : decode cX11_waitsAt 23 = .ok (.iadd, 1) := by decide +kernel
theorem dX11_waitsAt_24 : decode cX11_waitsAt 24 = .ok (.iaload, 1) := by decide +kernel
theorem dX11_waitsAt_25 : decode cX11_waitsAt 25 = .ok (.iload_n 2, 1) := by decide +kernel
theorem dX11_waitsAt_26 : decode cX11_waitsAt 26 = .ok (.if_icmp .ne 7, 3) := by decide +kernel
theorem dX11_waitsAt_29 : decode cX11_waitsAt 29 = .ok (.iconst 1, 1) := by decide +kernel
theorem dX11_waitsAt_30 : decode cX11_waitsAt 30 = .ok (.goto 4, 3) := by decide +kernel
theorem dX11_waitsAt_33 : decode cX11_waitsAt 33 = .ok (.iconst 0, 1) := by decide +kernel
theorem dX11_waitsAt_34 : decode cX11_waitsAt 34 = .ok (.ireturn, 1) := by decide +kernel
theorem dX11_unlike_0 : decode cX11_unlike 0 = .ok (.iconst 0, 1) := by decide +kernel
theorem dX11_unlike_1 : decode cX11_unlike 1 = .ok (.istore_n 2, 1) := by decide +kernel
theorem dX11_unlike_2 : decode cX11_unlike 2 = .ok (.iconst 0, 1) := by decide +kernel
theorem dX11_unlike_3 : decode cX11_unlike 3 = .ok (.istore_n 3, 1) := by decide +kernel
theorem dX11_unlike_4 : decode cX11_unlike 4 = .ok (.iload_n 3, 1) := by decide +kernel
theorem dX11_unlike_5 : decode cX11_unlike 5 = .ok (.aload_n 0, 1) := by decide +kernel
theorem dX11_unlike_6 : decode cX11_unlike 6 = .ok (.getfield 9, 3) := by decide +kernel
theorem dX11_unlike_9 : decode cX11_unlike 9 = .ok (.iload_n 1, 1) := by decide +kernel
theorem dX11_unlike_10 : decode cX11_unlike 10 = .ok (.invokestatic 109, 3) := by decide +kernel
theorem dX11_unlike_13 : decode cX11_unlike 13 = .ok (.iconst 2, 1) := by decide +kernel
theorem dX11_unlike_14 : decode cX11_unlike 14 = .ok (.iadd, 1) := by decide +kernel
theorem dX11_unlike_15 : decode cX11_unlike 15 = .ok (.iaload, 1) := by decide +kernel
theorem dX11_unlike_16 : decode cX11_unlike 16 = .ok (.if_icmp .ge 51, 3) := by decide +kernel
theorem dX11_unlike_19 : decode cX11_unlike 19 = .ok (.iload_n 2, 1) := by decide +kernel
theorem dX11_unlike_20 : decode cX11_unlike 20 = .ok (.aload_n 0, 1) := by decide +kernel
theorem dX11_unlike_21 : decode cX11_unlike 21 = .ok (.getfield 9, 3) := by decide +kernel
theorem dX11_unlike_24 : decode cX11_unlike 24 = .ok (.iload_n 1, 1) := by decide +kernel
theorem dX11_unlike_25 : decode cX11_unlike 25 = .ok (.invokestatic 109, 3) := by decide +kernel
theorem dX11_unlike_28 : decode cX11_unlike 28 = .ok (.bipush 11, 2) := by decide +kernel
theorem dX11_unlike_30 : decode cX11_unlike 30 = .ok (.iadd, 1) := by decide +kernel
theorem dX11_unlike_31 : decode cX11_unlike 31 = .ok (.iload_n 3, 1) := by decide +kernel
theorem dX11_unlike_32 : decode cX11_unlike 32 = .ok (.iadd, 1) := by decide +kernel
theorem dX11_unlike_33 : decode cX11_unlike 33 = .ok (.iaload, 1) := by decide +kernel
theorem dX11_unlike_34 : decode cX11_unlike 34 = .ok (.aload_n 0, 1) := by decide +kernel
theorem dX11_unlike_35 : decode cX11_unlike 35 = .ok (.getfield 9, 3) := by decide +kernel
theorem dX11_unlike_38 : decode cX11_unlike 38 = .ok (.iload_n 1, 1) := by decide +kernel
theorem dX11_unlike_39 : decode cX11_unlike 39 = .ok (.invokestatic 109, 3) := by decide +kernel
theorem dX11_unlike_42 : decode cX11_unlike 42 = .ok (.bipush 19, 2) := by decide +kernel
theorem dX11_unlike_44 : decode cX11_unlike 44 = .ok (.iadd, 1) := by decide +kernel
theorem dX11_unlike_45 : decode cX11_unlike 45 = .ok (.iload_n 3, 1) := by decide +kernel
theorem dX11_unlike_46 : decode cX11_unlike 46 = .ok (.iadd, 1) := by decide +kernel
theorem dX11_unlike_47 : decode cX11_unlike 47 = .ok (.iaload, 1) := by decide +kernel
theorem dX11_unlike_48 : decode cX11_unlike 48 = .ok (.if_icmp .eq 7, 3) := by decide +kernel
theorem dX11_unlike_51 : decode cX11_unlike 51 = .ok (.iconst 1, 1) := by decide +kernel
theorem dX11_unlike_52 : decode cX11_unlike 52 = .ok (.goto 4, 3) := by decide +kernel
theorem dX11_unlike_55 : decode cX11_unlike 55 = .ok (.iconst 0, 1) := by decide +kernel
theorem dX11_unlike_56 : decode cX11_unlike 56 = .ok (.invokestatic 115, 3) := by decide +kernel
theorem dX11_unlike_59 : decode cX11_unlike 59 = .ok (.iadd, 1) := by decide +kernel
theorem dX11_unlike_60 : decode cX11_unlike 60 = .ok (.istore_n 2, 1) := by decide +kernel
theorem dX11_unlike_61 : decode cX11_unlike 61 = .ok (.iinc 3 1, 3) := by decide +kernel
theorem dX11_unlike_64 : decode cX11_unlike 64 = .ok (.goto (-60), 3) := by decide +kernel
theorem dX11_unlike_67 : decode cX11_unlike 67 = .ok (.iload_n 2, 1) := by decide +kernel
theorem dX11_unlike_68 : decode cX11_unlike 68 = .ok (.ireturn, 1) := by decide +kernel
theorem dX11_hearsAsSent_0 : decode cX11_hearsAsSent 0 = .ok (.iconst 0, 1) := by decide +kernel
theorem dX11_hearsAsSent_1 : decode cX11_hearsAsSent 1 = .ok (.istore_n 2, 1) := by decide +kernel
theorem dX11_hearsAsSent_2 : decode cX11_hearsAsSent 2 = .ok (.iload_n 2, 1) := by decide +kernel
theorem dX11_hearsAsSent_3 : decode cX11_hearsAsSent 3 = .ok (.bipush 8, 2) := by decide +kernel
theorem dX11_hearsAsSent_5 : decode cX11_hearsAsSent 5 = .ok (.if_icmp .ge 37, 3) := by decide +kernel
theorem dX11_hearsAsSent_8 : decode cX11_hearsAsSent 8 = .ok (.aload_n 0, 1) := by decide +kernel
theorem dX11_hearsAsSent_9 : decode cX11_hearsAsSent 9 = .ok (.getfield 9, 3) := by decide +kernel
theorem dX11_hearsAsSent_12 : decode cX11_hearsAsSent 12 = .ok (.iload_n 1, 1) := by decide +kernel
theorem dX11_hearsAsSent_13 : decode cX11_hearsAsSent 13 = .ok (.invokestatic 109, 3) := by decide +kernel
theorem dX11_hearsAsSent_16 : decode cX11_hearsAsSent 16 = .ok (.bipush 19, 2) := by decide +kernel
theorem dX11_hearsAsSent_18 : decode cX11_hearsAsSent 18 = .ok (.iadd, 1) := by decide +kernel
theorem dX11_hearsAsSent_19 : decode cX11_hearsAsSent 19 = .ok (.iload_n 2, 1) := by decide +kernel
theorem dX11_hearsAsSent_20 : decode cX11_hearsAsSent 20 = .ok (.iadd, 1) := by decide +kernel
theorem dX11_hearsAsSent_21 : decode cX11_hearsAsSent 21 = .ok (.aload_n 0, 1) := by decide +kernel
theorem dX11_hearsAsSent_22 : decode cX11_hearsAsSent 22 = .ok (.getfield 9, 3) := by decide +kernel
theorem dX11_hearsAsSent_25 : decode cX11_hearsAsSent 25 = .ok (.iload_n 1, 1) := by decide +kernel
theorem dX11_hearsAsSent_26 : decode cX11_hearsAsSent 26 = .ok (.invokestatic 109, 3) := by decide +kernel
theorem dX11_hearsAsSent_29 : decode cX11_hearsAsSent 29 = .ok (.bipush 11, 2) := by decide +kernel
theorem dX11_hearsAsSent_31 : decode cX11_hearsAsSent 31 = .ok (.iadd, 1) := by decide +kernel
theorem dX11_hearsAsSent_32 : decode cX11_hearsAsSent 32 = .ok (.iload_n 2, 1) := by decide +kernel
theorem dX11_hearsAsSent_33 : decode cX11_hearsAsSent 33 = .ok (.iadd, 1) := by decide +kernel
theorem dX11_hearsAsSent_34 : decode cX11_hearsAsSent 34 = .ok (.iaload, 1) := by decide +kernel
theorem dX11_hearsAsSent_35 : decode cX11_hearsAsSent 35 = .ok (.iastore, 1) := by decide +kernel
theorem dX11_hearsAsSent_36 : decode cX11_hearsAsSent 36 = .ok (.iinc 2 1, 3) := by decide +kernel
theorem dX11_hearsAsSent_39 : decode cX11_hearsAsSent 39 = .ok (.goto (-37), 3) := by decide +kernel
theorem dX11_hearsAsSent_42 : decode cX11_hearsAsSent 42 = .ok (.return_, 1) := by decide +kernel
theorem dX11_newTune_0 : decode cX11_newTune 0 = .ok (.aload_n 0, 1) := by decide +kernel
theorem dX11_newTune_1 : decode cX11_newTune 1 = .ok (.getfield 9, 3) := by decide +kernel
theorem dX11_newTune_4 : decode cX11_newTune 4 = .ok (.iconst 2, 1) := by decide +kernel
theorem dX11_newTune_5 : decode cX11_newTune 5 = .ok (.iaload, 1) := by decide +kernel
theorem dX11_newTune_6 : decode cX11_newTune 6 = .ok (.istore 5, 2) := by decide +kernel
theorem dX11_newTune_8 : decode cX11_newTune 8 = .ok (.iload 5, 2) := by decide +kernel
theorem dX11_newTune_10 : decode cX11_newTune 10 = .ok (.invokestatic 109, 3) := by decide +kernel
theorem dX11_newTune_13 : decode cX11_newTune 13 = .ok (.istore 6, 2) := by decide +kernel
theorem dX11_newTune_15 : decode cX11_newTune 15 = .ok (.iconst 0, 1) := by decide +kernel
theorem dX11_newTune_16 : decode cX11_newTune 16 = .ok (.istore 7, 2) := by decide +kernel
theorem dX11_newTune_18 : decode cX11_newTune 18 = .ok (.iload 7, 2) := by decide +kernel
theorem dX11_newTune_20 : decode cX11_newTune 20 = .ok (.bipush 27, 2) := by decide +kernel
theorem dX11_newTune_22 : decode cX11_newTune 22 = .ok (.if_icmp .ge 20, 3) := by decide +kernel
theorem dX11_newTune_25 : decode cX11_newTune 25 = .ok (.aload_n 0, 1) := by decide +kernel
theorem dX11_newTune_26 : decode cX11_newTune 26 = .ok (.getfield 9, 3) := by decide +kernel
theorem dX11_newTune_29 : decode cX11_newTune 29 = .ok (.iload 6, 2) := by decide +kernel
theorem dX11_newTune_31 : decode cX11_newTune 31 = .ok (.iload 7, 2) := by decide +kernel
theorem dX11_newTune_33 : decode cX11_newTune 33 = .ok (.iadd, 1) := by decide +kernel
theorem dX11_newTune_34 : decode cX11_newTune 34 = .ok (.iconst 0, 1) := by decide +kernel
theorem dX11_newTune_35 : decode cX11_newTune 35 = .ok (.iastore, 1) := by decide +kernel
theorem dX11_newTune_36 : decode cX11_newTune 36 = .ok (.iinc 7 1, 3) := by decide +kernel
theorem dX11_newTune_39 : decode cX11_newTune 39 = .ok (.goto (-21), 3) := by decide +kernel
theorem dX11_newTune_42 : decode cX11_newTune 42 = .ok (.aload_n 0, 1) := by decide +kernel
theorem dX11_newTune_43 : decode cX11_newTune 43 = .ok (.getfield 9, 3) := by decide +kernel
theorem dX11_newTune_46 : decode cX11_newTune 46 = .ok (.iload 6, 2) := by decide +kernel
theorem dX11_newTune_48 : decode cX11_newTune 48 = .ok (.iconst 0, 1) := by decide +kernel
theorem dX11_newTune_49 : decode cX11_newTune 49 = .ok (.iadd, 1) := by decide +kernel
theorem dX11_newTune_50 : decode cX11_newTune 50 = .ok (.iload_n 1, 1) := by decide +kernel
theorem dX11_newTune_51 : decode cX11_newTune 51 = .ok (.iastore, 1) := by decide +kernel
theorem dX11_newTune_52 : decode cX11_newTune 52 = .ok (.aload_n 0, 1) := by decide +kernel
theorem dX11_newTune_53 : decode cX11_newTune 53 = .ok (.getfield 9, 3) := by decide +kernel
theorem dX11_newTune_56 : decode cX11_newTune 56 = .ok (.iload 6, 2) := by decide +kernel
theorem dX11_newTune_58 : decode cX11_newTune 58 = .ok (.iconst 1, 1) := by decide +kernel
theorem dX11_newTune_59 : decode cX11_newTune 59 = .ok (.iadd, 1) := by decide +kernel
theorem dX11_newTune_60 : decode cX11_newTune 60 = .ok (.iload_n 2, 1) := by decide +kernel
theorem dX11_newTune_61 : decode cX11_newTune 61 = .ok (.iastore, 1) := by decide +kernel
theorem dX11_newTune_62 : decode cX11_newTune 62 = .ok (.aload_n 0, 1) := by decide +kernel
theorem dX11_newTune_63 : decode cX11_newTune 63 = .ok (.getfield 9, 3) := by decide +kernel
theorem dX11_newTune_66 : decode cX11_newTune 66 = .ok (.iload 6, 2) := by decide +kernel
theorem dX11_newTune_68 : decode cX11_newTune 68 = .ok (.iconst 2, 1) := by decide +kernel
theorem dX11_newTune_69 : decode cX11_newTune 69 = .ok (.iadd, 1) := by decide +kernel
theorem dX11_newTune_70 : decode cX11_newTune 70 = .ok (.aload_n 0, 1) := by decide +kernel
theorem dX11_newTune_71 : decode cX11_newTune 71 = .ok (.getfield 119, 3) := by decide +kernel
theorem dX11_newTune_74 : decode cX11_newTune 74 = .ok (.iastore, 1) := by decide +kernel
theorem dX11_newTune_75 : decode cX11_newTune 75 = .ok (.aload_n 0, 1) := by decide +kernel
theorem dX11_newTune_76 : decode cX11_newTune 76 = .ok (.getfield 9, 3) := by decide +kernel
theorem dX11_newTune_79 : decode cX11_newTune 79 = .ok (.iload 6, 2) := by decide +kernel
theorem dX11_newTune_81 : decode cX11_newTune 81 = .ok (.iconst 4, 1) := by decide +kernel
theorem dX11_newTune_82 : decode cX11_newTune 82 = .ok (.iadd, 1) := by decide +kernel
theorem dX11_newTune_83 : decode cX11_newTune 83 = .ok (.iload_n 1, 1) := by decide +kernel
theorem dX11_newTune_84 : decode cX11_newTune 84 = .ok (.iastore, 1) := by decide +kernel
theorem dX11_newTune_85 : decode cX11_newTune 85 = .ok (.aload_n 0, 1) := by decide +kernel
theorem dX11_newTune_86 : decode cX11_newTune 86 = .ok (.getfield 9, 3) := by decide +kernel
theorem dX11_newTune_89 : decode cX11_newTune 89 = .ok (.iload 6, 2) := by decide +kernel
theorem dX11_newTune_91 : decode cX11_newTune 91 = .ok (.iconst 5, 1) := by decide +kernel
theorem dX11_newTune_92 : decode cX11_newTune 92 = .ok (.iadd, 1) := by decide +kernel
theorem dX11_newTune_93 : decode cX11_newTune 93 = .ok (.iconst (-1), 1) := by decide +kernel
theorem dX11_newTune_94 : decode cX11_newTune 94 = .ok (.iastore, 1) := by decide +kernel
theorem dX11_newTune_95 : decode cX11_newTune 95 = .ok (.aload_n 0, 1) := by decide +kernel
theorem dX11_newTune_96 : decode cX11_newTune 96 = .ok (.getfield 9, 3) := by decide +kernel
theorem dX11_newTune_99 : decode cX11_newTune 99 = .ok (.iload 6, 2) := by decide +kernel
theorem dX11_newTune_101 : decode cX11_newTune 101 = .ok (.bipush 6, 2) := by decide +kernel
theorem dX11_newTune_103 : decode cX11_newTune 103 = .ok (.iadd, 1) := by decide +kernel
theorem dX11_newTune_104 : decode cX11_newTune 104 = .ok (.iload_n 3, 1) := by decide +kernel
theorem dX11_newTune_105 : decode cX11_newTune 105 = .ok (.invokestatic 115, 3) := by decide +kernel
theorem dX11_newTune_108 : decode cX11_newTune 108 = .ok (.iastore, 1) := by decide +kernel
theorem dX11_newTune_109 : decode cX11_newTune 109 = .ok (.aload_n 0, 1) := by decide +kernel
theorem dX11_newTune_110 : decode cX11_newTune 110 = .ok (.getfield 9, 3) := by decide +kernel
theorem dX11_newTune_113 : decode cX11_newTune 113 = .ok (.iload 6, 2) := by decide +kernel
theorem dX11_newTune_115 : decode cX11_newTune 115 = .ok (.bipush 7, 2) := by decide +kernel
theorem dX11_newTune_117 : decode cX11_newTune 117 = .ok (.iadd, 1) := by decide +kernel
theorem dX11_newTune_118 : decode cX11_newTune 118 = .ok (.iload 4, 2) := by decide +kernel
theorem dX11_newTune_120 : decode cX11_newTune 120 = .ok (.invokestatic 115, 3) := by decide +kernel
theorem dX11_newTune_123 : decode cX11_newTune 123 = .ok (.iastore, 1) := by decide +kernel
theorem dX11_newTune_124 : decode cX11_newTune 124 = .ok (.iconst 0, 1) := by decide +kernel
theorem dX11_newTune_125 : decode cX11_newTune 125 = .ok (.istore 7, 2) := by decide +kernel
theorem dX11_newTune_127 : decode cX11_newTune 127 = .ok (.iload 7, 2) := by decide +kernel
theorem dX11_newTune_129 : decode cX11_newTune 129 = .ok (.aload_n 0, 1) := by decide +kernel
theorem dX11_newTune_130 : decode cX11_newTune 130 = .ok (.getfield 119, 3) := by decide +kernel
theorem dX11_newTune_133 : decode cX11_newTune 133 = .ok (.if_icmp .ge 29, 3) := by decide +kernel
theorem dX11_newTune_136 : decode cX11_newTune 136 = .ok (.aload_n 0, 1) := by decide +kernel
theorem dX11_newTune_137 : decode cX11_newTune 137 = .ok (.getfield 9, 3) := by decide +kernel
theorem dX11_newTune_140 : decode cX11_newTune 140 = .ok (.iload 6, 2) := by decide +kernel
theorem dX11_newTune_142 : decode cX11_newTune 142 = .ok (.bipush 11, 2) := by decide +kernel
theorem dX11_newTune_144 : decode cX11_newTune 144 = .ok (.iadd, 1) := by decide +kernel
theorem dX11_newTune_145 : decode cX11_newTune 145 = .ok (.iload 7, 2) := by decide +kernel
theorem dX11_newTune_147 : decode cX11_newTune 147 = .ok (.iadd, 1) := by decide +kernel
theorem dX11_newTune_148 : decode cX11_newTune 148 = .ok (.aload_n 0, 1) := by decide +kernel
theorem dX11_newTune_149 : decode cX11_newTune 149 = .ok (.getfield 28, 3) := by decide +kernel
theorem dX11_newTune_152 : decode cX11_newTune 152 = .ok (.iload 7, 2) := by decide +kernel
theorem dX11_newTune_154 : decode cX11_newTune 154 = .ok (.iaload, 1) := by decide +kernel
theorem dX11_newTune_155 : decode cX11_newTune 155 = .ok (.iastore, 1) := by decide +kernel
theorem dX11_newTune_156 : decode cX11_newTune 156 = .ok (.iinc 7 1, 3) := by decide +kernel
theorem dX11_newTune_159 : decode cX11_newTune 159 = .ok (.goto (-32), 3) := by decide +kernel
theorem dX11_newTune_162 : decode cX11_newTune 162 = .ok (.aload_n 0, 1) := by decide +kernel
theorem dX11_newTune_163 : decode cX11_newTune 163 = .ok (.iload 5, 2) := by decide +kernel
theorem dX11_newTune_165 : decode cX11_newTune 165 = .ok (.invokevirtual 122, 3) := by decide +kernel
theorem dX11_newTune_168 : decode cX11_newTune 168 = .ok (.aload_n 0, 1) := by decide +kernel
theorem dX11_newTune_169 : decode cX11_newTune 169 = .ok (.getfield 9, 3) := by decide +kernel
theorem dX11_newTune_172 : decode cX11_newTune 172 = .ok (.iconst 2, 1) := by decide +kernel
theorem dX11_newTune_173 : decode cX11_newTune 173 = .ok (.dup2, 1) := by decide +kernel
theorem dX11_newTune_174 : decode cX11_newTune 174 = .ok (.iaload, 1) := by decide +kernel
theorem dX11_newTune_175 : decode cX11_newTune 175 = .ok (.iconst 1, 1) := by decide +kernel
theorem dX11_newTune_176 : decode cX11_newTune 176 = .ok (.iadd, 1) := by decide +kernel
theorem dX11_newTune_177 : decode cX11_newTune 177 = .ok (.iastore, 1) := by decide +kernel
theorem dX11_newTune_178 : decode cX11_newTune 178 = .ok (.aload_n 0, 1) := by decide +kernel
theorem dX11_newTune_179 : decode cX11_newTune 179 = .ok (.iconst 1, 1) := by decide +kernel
theorem dX11_newTune_180 : decode cX11_newTune 180 = .ok (.iconst 1, 1) := by decide +kernel
theorem dX11_newTune_181 : decode cX11_newTune 181 = .ok (.invokevirtual 126, 3) := by decide +kernel
theorem dX11_newTune_184 : decode cX11_newTune 184 = .ok (.aload_n 0, 1) := by decide +kernel
theorem dX11_newTune_185 : decode cX11_newTune 185 = .ok (.iconst 2, 1) := by decide +kernel
theorem dX11_newTune_186 : decode cX11_newTune 186 = .ok (.iload_n 3, 1) := by decide +kernel
theorem dX11_newTune_187 : decode cX11_newTune 187 = .ok (.invokestatic 115, 3) := by decide +kernel
theorem dX11_newTune_190 : decode cX11_newTune 190 = .ok (.invokevirtual 126, 3) := by decide +kernel
theorem dX11_newTune_193 : decode cX11_newTune 193 = .ok (.iload 5, 2) := by decide +kernel
theorem dX11_newTune_195 : decode cX11_newTune 195 = .ok (.ireturn, 1) := by decide +kernel
theorem dX11_wrongBy_0 : decode cX11_wrongBy 0 = .ok (.iload 4, 2) := by decide +kernel
theorem dX11_wrongBy_2 : decode cX11_wrongBy 2 = .ok (.iconst 0, 1) := by decide +kernel
theorem dX11_wrongBy_3 : decode cX11_wrongBy 3 = .ok (.iload_n 1, 1) := by decide +kernel
theorem dX11_wrongBy_4 : decode cX11_wrongBy 4 = .ok (.iload_n 2, 1) := by decide +kernel
theorem dX11_wrongBy_5 : decode cX11_wrongBy 5 = .ok (.imul, 1) := by decide +kernel
theorem dX11_wrongBy_6 : decode cX11_wrongBy 6 = .ok (.iconst 3, 1) := by decide +kernel
theorem dX11_wrongBy_7 : decode cX11_wrongBy 7 = .ok (.aload_n 0, 1) := by decide +kernel
theorem dX11_wrongBy_8 : decode cX11_wrongBy 8 = .ok (.getfield 9, 3) := by decide +kernel
theorem dX11_wrongBy_11 : decode cX11_wrongBy 11 = .ok (.iload_n 3, 1) := by decide +kernel
theorem dX11_wrongBy_12 : decode cX11_wrongBy 12 = .ok (.invokestatic 84, 3) := by decide +kernel
theorem dX11_wrongBy_15 : decode cX11_wrongBy 15 = .ok (.bipush 8, 2) := by decide +kernel
theorem dX11_wrongBy_17 : decode cX11_wrongBy 17 = .ok (.iadd, 1) := by decide +kernel
theorem dX11_wrongBy_18 : decode cX11_wrongBy 18 = .ok (.iaload, 1) := by decide +kernel
theorem dX11_wrongBy_19 : decode cX11_wrongBy 19 = .ok (.imul, 1) := by decide +kernel
theorem dX11_wrongBy_20 : decode cX11_wrongBy 20 = .ok (.isub, 1) := by decide +kernel
theorem dX11_wrongBy_21 : decode cX11_wrongBy 21 = .ok (.invokestatic 129, 3) := by decide +kernel
theorem dX11_wrongBy_24 : decode cX11_wrongBy 24 = .ok (.bipush 10, 2) := by decide +kernel
theorem dX11_wrongBy_26 : decode cX11_wrongBy 26 = .ok (.idiv, 1) := by decide +kernel
theorem dX11_wrongBy_27 : decode cX11_wrongBy 27 = .ok (.invokestatic 134, 3) := by decide +kernel
theorem dX11_wrongBy_30 : decode cX11_wrongBy 30 = .ok (.ireturn, 1) := by decide +kernel
theorem dX11_blurs_0 : decode cX11_blurs 0 = .ok (.iload_n 1, 1) := by decide +kernel
theorem dX11_blurs_1 : decode cX11_blurs 1 = .ok (.invokestatic 109, 3) := by decide +kernel
theorem dX11_blurs_4 : decode cX11_blurs 4 = .ok (.istore_n 2, 1) := by decide +kernel
theorem dX11_blurs_5 : decode cX11_blurs 5 = .ok (.aload_n 0, 1) := by decide +kernel
theorem dX11_blurs_6 : decode cX11_blurs 6 = .ok (.getfield 9, 3) := by decide +kernel
theorem dX11_blurs_9 : decode cX11_blurs 9 = .ok (.iload_n 2, 1) := by decide +kernel
theorem dX11_blurs_10 : decode cX11_blurs 10 = .ok (.iconst 2, 1) := by decide +kernel
theorem dX11_blurs_11 : decode cX11_blurs 11 = .ok (.iadd, 1) := by decide +kernel
theorem dX11_blurs_12 : decode cX11_blurs 12 = .ok (.iaload, 1) := by decide +kernel
theorem dX11_blurs_13 : decode cX11_blurs 13 = .ok (.istore_n 3, 1) := by decide +kernel
theorem dX11_blurs_14 : decode cX11_blurs 14 = .ok (.aload_n 0, 1) := by decide +kernel
theorem dX11_blurs_15 : decode cX11_blurs 15 = .ok (.aload_n 0, 1) := by decide +kernel
theorem dX11_blurs_16 : decode cX11_blurs 16 = .ok (.getfield 9, 3) := by decide +kernel
theorem dX11_blurs_19 : decode cX11_blurs 19 = .ok (.iconst 4, 1) := by decide +kernel
theorem dX11_blurs_20 : decode cX11_blurs 20 = .ok (.iaload, 1) := by decide +kernel
theorem dX11_blurs_21 : decode cX11_blurs 21 = .ok (.aload_n 0, 1) := by decide +kernel
theorem dX11_blurs_22 : decode cX11_blurs 22 = .ok (.getfield 9, 3) := by decide +kernel
theorem dX11_blurs_25 : decode cX11_blurs 25 = .ok (.iload_n 2, 1) := by decide +kernel
theorem dX11_blurs_26 : decode cX11_blurs 26 = .ok (.bipush 10, 2) := by decide +kernel
theorem dX11_blurs_28 : decode cX11_blurs 28 = .ok (.iadd, 1) := by decide +kernel
theorem dX11_blurs_29 : decode cX11_blurs 29 = .ok (.iaload, 1) := by decide +kernel
theorem dX11_blurs_30 : decode cX11_blurs 30 = .ok (.aload_n 0, 1) := by decide +kernel
theorem dX11_blurs_31 : decode cX11_blurs 31 = .ok (.getfield 9, 3) := by decide +kernel
theorem dX11_blurs_34 : decode cX11_blurs 34 = .ok (.iload_n 2, 1) := by decide +kernel
theorem dX11_blurs_35 : decode cX11_blurs 35 = .ok (.iconst 4, 1) := by decide +kernel
theorem dX11_blurs_36 : decode cX11_blurs 36 = .ok (.iadd, 1) := by decide +kernel
theorem dX11_blurs_37 : decode cX11_blurs 37 = .ok (.iaload, 1) := by decide +kernel
theorem dX11_blurs_38 : decode cX11_blurs 38 = .ok (.iload_n 3, 1) := by decide +kernel
theorem dX11_blurs_39 : decode cX11_blurs 39 = .ok (.invokevirtual 137, 3) := by decide +kernel
theorem dX11_blurs_42 : decode cX11_blurs 42 = .ok (.istore 4, 2) := by decide +kernel
theorem dX11_blurs_44 : decode cX11_blurs 44 = .ok (.iconst 0, 1) := by decide +kernel
theorem dX11_blurs_45 : decode cX11_blurs 45 = .ok (.istore 5, 2) := by decide +kernel
theorem dX11_blurs_47 : decode cX11_blurs 47 = .ok (.iload 5, 2) := by decide +kernel
theorem dX11_blurs_49 : decode cX11_blurs 49 = .ok (.iload 4, 2) := by decide +kernel
theorem dX11_blurs_51 : decode cX11_blurs 51 = .ok (.if_icmp .ge 41, 3) := by decide +kernel
theorem dX11_blurs_54 : decode cX11_blurs 54 = .ok (.iload_n 2, 1) := by decide +kernel
theorem dX11_blurs_55 : decode cX11_blurs 55 = .ok (.bipush 19, 2) := by decide +kernel
theorem dX11_blurs_57 : decode cX11_blurs 57 = .ok (.iadd, 1) := by decide +kernel
theorem dX11_blurs_58 : decode cX11_blurs 58 = .ok (.iload_n 1, 1) := by decide +kernel
theorem dX11_blurs_59 : decode cX11_blurs 59 = .ok (.iload 5, 2) := by decide +kernel
theorem dX11_blurs_61 : decode cX11_blurs 61 = .ok (.iadd, 1) := by decide +kernel
theorem dX11_blurs_62 : decode cX11_blurs 62 = .ok (.iload_n 3, 1) := by decide +kernel
theorem dX11_blurs_63 : decode cX11_blurs 63 = .ok (.irem, 1) := by decide +kernel
theorem dX11_blurs_64 : decode cX11_blurs 64 = .ok (.iadd, 1) := by decide +kernel
theorem dX11_blurs_65 : decode cX11_blurs 65 = .ok (.istore 6, 2) := by decide +kernel
theorem dX11_blurs_67 : decode cX11_blurs 67 = .ok (.aload_n 0, 1) := by decide +kernel
theorem dX11_blurs_68 : decode cX11_blurs 68 = .ok (.getfield 9, 3) := by decide +kernel
theorem dX11_blurs_71 : decode cX11_blurs 71 = .ok (.iload 6, 2) := by decide +kernel
theorem dX11_blurs_73 : decode cX11_blurs 73 = .ok (.aload_n 0, 1) := by decide +kernel
theorem dX11_blurs_74 : decode cX11_blurs 74 = .ok (.getfield 9, 3) := by decide +kernel
theorem dX11_blurs_77 : decode cX11_blurs 77 = .ok (.iload 6, 2) := by decide +kernel
theorem dX11_blurs_79 : decode cX11_blurs 79 = .ok (.iaload, 1) := by decide +kernel
theorem dX11_blurs_80 : decode cX11_blurs 80 = .ok (.iconst 1, 1) := by decide +kernel
theorem dX11_blurs_81 : decode cX11_blurs 81 = .ok (.iadd, 1) := by decide +kernel
theorem dX11_blurs_82 : decode cX11_blurs 82 = .ok (.bipush 8, 2) := by decide +kernel
theorem dX11_blurs_84 : decode cX11_blurs 84 = .ok (.irem, 1) := by decide +kernel
theorem dX11_blurs_85 : decode cX11_blurs 85 = .ok (.iastore, 1) := by decide +kernel
theorem dX11_blurs_86 : decode cX11_blurs 86 = .ok (.iinc 5 1, 3) := by decide +kernel
theorem dX11_blurs_89 : decode cX11_blurs 89 = .ok (.goto (-42), 3) := by decide +kernel
theorem dX11_blurs_92 : decode cX11_blurs 92 = .ok (.aload_n 0, 1) := by decide +kernel
theorem dX11_blurs_93 : decode cX11_blurs 93 = .ok (.iconst 4, 1) := by decide +kernel
theorem dX11_blurs_94 : decode cX11_blurs 94 = .ok (.iload 4, 2) := by decide +kernel
theorem dX11_blurs_96 : decode cX11_blurs 96 = .ok (.invokevirtual 126, 3) := by decide +kernel
theorem dX11_blurs_99 : decode cX11_blurs 99 = .ok (.return_, 1) := by decide +kernel
theorem dX11_replies_0 : decode cX11_replies 0 = .ok (.iload_n 1, 1) := by decide +kernel
theorem dX11_replies_1 : decode cX11_replies 1 = .ok (.invokestatic 109, 3) := by decide +kernel
theorem dX11_replies_4 : decode cX11_replies 4 = .ok (.istore_n 2, 1) := by decide +kernel
theorem dX11_replies_5 : decode cX11_replies 5 = .ok (.aload_n 0, 1) := by decide +kernel
theorem dX11_replies_6 : decode cX11_replies 6 = .ok (.getfield 9, 3) := by decide +kernel
theorem dX11_replies_9 : decode cX11_replies 9 = .ok (.iload_n 2, 1) := by decide +kernel
theorem dX11_replies_10 : decode cX11_replies 10 = .ok (.bipush 7, 2) := by decide +kernel
theorem dX11_replies_12 : decode cX11_replies 12 = .ok (.iadd, 1) := by decide +kernel
theorem dX11_replies_13 : decode cX11_replies 13 = .ok (.iaload, 1) := by decide +kernel
theorem dX11_replies_14 : decode cX11_replies 14 = .ok (.ifCond .eq 22, 3) := by decide +kernel
theorem dX11_replies_17 : decode cX11_replies 17 = .ok (.aload_n 0, 1) := by decide +kernel
theorem dX11_replies_18 : decode cX11_replies 18 = .ok (.iload_n 1, 1) := by decide +kernel
theorem dX11_replies_19 : decode cX11_replies 19 = .ok (.invokevirtual 141, 3) := by decide +kernel
theorem dX11_replies_22 : decode cX11_replies 22 = .ok (.ifCond .gt 14, 3) := by decide +kernel
theorem dX11_replies_25 : decode cX11_replies 25 = .ok (.aload_n 0, 1) := by decide +kernel
theorem dX11_replies_26 : decode cX11_replies 26 = .ok (.getfield 9, 3) := by decide +kernel
theorem dX11_replies_29 : decode cX11_replies 29 = .ok (.iconst 2, 1) := by decide +kernel
theorem dX11_replies_30 : decode cX11_replies 30 = .ok (.iaload, 1) := by decide +kernel
theorem dX11_replies_31 : decode cX11_replies 31 = .ok (.bipush 30, 2) := by decide +kernel
theorem dX11_replies_33 : decode cX11_replies 33 = .ok (.if_icmp .ne 4, 3) := by decide +kernel
theorem dX11_replies_36 : decode cX11_replies 36 = .ok (.return_, 1) := by decide +kernel
theorem dX11_replies_37 : decode cX11_replies 37 = .ok (.aload_n 0, 1) := by decide +kernel
theorem dX11_replies_38 : decode cX11_replies 38 = .ok (.aload_n 0, 1) := by decide +kernel
theorem dX11_replies_39 : decode cX11_replies 39 = .ok (.getfield 9, 3) := by decide +kernel
theorem dX11_replies_42 : decode cX11_replies 42 = .ok (.iload_n 2, 1) := by decide +kernel
theorem dX11_replies_43 : decode cX11_replies 43 = .ok (.iconst 2, 1) := by decide +kernel
theorem dX11_replies_44 : decode cX11_replies 44 = .ok (.iadd, 1) := by decide +kernel
theorem dX11_replies_45 : decode cX11_replies 45 = .ok (.iaload, 1) := by decide +kernel
theorem dX11_replies_46 : decode cX11_replies 46 = .ok (.putfield 119, 3) := by decide +kernel
theorem dX11_replies_49 : decode cX11_replies 49 = .ok (.iconst 0, 1) := by decide +kernel
theorem dX11_replies_50 : decode cX11_replies 50 = .ok (.istore_n 3, 1) := by decide +kernel
theorem dX11_replies_51 : decode cX11_replies 51 = .ok (.iload_n 3, 1) := by decide +kernel
theorem dX11_replies_52 : decode cX11_replies 52 = .ok (.aload_n 0, 1) := by decide +kernel
theorem dX11_replies_53 : decode cX11_replies 53 = .ok (.getfield 119, 3) := by decide +kernel
theorem dX11_replies_56 : decode cX11_replies 56 = .ok (.if_icmp .ge 33, 3) := by decide +kernel
theorem dX11_replies_59 : decode cX11_replies 59 = .ok (.aload_n 0, 1) := by decide +kernel
theorem dX11_replies_60 : decode cX11_replies 60 = .ok (.getfield 28, 3) := by decide +kernel
theorem dX11_replies_63 : decode cX11_replies 63 = .ok (.iload_n 3, 1) := by decide +kernel
theorem dX11_replies_64 : decode cX11_replies 64 = .ok (.aload_n 0, 1) := by decide +kernel
theorem dX11_replies_65 : decode cX11_replies 65 = .ok (.getfield 9, 3) := by decide +kernel
theorem dX11_replies_68 : decode cX11_replies 68 = .ok (.iload_n 2, 1) := by decide +kernel
theorem dX11_replies_69 : decode cX11_replies 69 = .ok (.bipush 11, 2) := by decide +kernel
theorem dX11_replies_71 : decode cX11_replies 71 = .ok (.iadd, 1) := by decide +kernel
theorem dX11_replies_72 : decode cX11_replies 72 = .ok (.aload_n 0, 1) := by decide +kernel
theorem dX11_replies_73 : decode cX11_replies 73 = .ok (.getfield 119, 3) := by decide +kernel
theorem dX11_replies_76 : decode cX11_replies 76 = .ok (.iadd, 1) := by decide +kernel
theorem dX11_replies_77 : decode cX11_replies 77 = .ok (.iconst 1, 1) := by decide +kernel
theorem dX11_replies_78 : decode cX11_replies 78 = .ok (.isub, 1) := by decide +kernel
theorem dX11_replies_79 : decode cX11_replies 79 = .ok (.iload_n 3, 1) := by decide +kernel
theorem dX11_replies_80 : decode cX11_replies 80 = .ok (.isub, 1) := by decide +kernel
theorem dX11_replies_81 : decode cX11_replies 81 = .ok (.iaload, 1) := by decide +kernel
theorem dX11_replies_82 : decode cX11_replies 82 = .ok (.iastore, 1) := by decide +kernel
theorem dX11_replies_83 : decode cX11_replies 83 = .ok (.iinc 3 1, 3) := by decide +kernel
theorem dX11_replies_86 : decode cX11_replies 86 = .ok (.goto (-35), 3) := by decide +kernel
theorem dX11_replies_89 : decode cX11_replies 89 = .ok (.aload_n 0, 1) := by decide +kernel
theorem dX11_replies_90 : decode cX11_replies 90 = .ok (.aload_n 0, 1) := by decide +kernel
theorem dX11_replies_91 : decode cX11_replies 91 = .ok (.getfield 9, 3) := by decide +kernel
theorem dX11_replies_94 : decode cX11_replies 94 = .ok (.iload_n 2, 1) := by decide +kernel
theorem dX11_replies_95 : decode cX11_replies 95 = .ok (.iconst 1, 1) := by decide +kernel
theorem dX11_replies_96 : decode cX11_replies 96 = .ok (.iadd, 1) := by decide +kernel
theorem dX11_replies_97 : decode cX11_replies 97 = .ok (.iaload, 1) := by decide +kernel
theorem dX11_replies_98 : decode cX11_replies 98 = .ok (.aload_n 0, 1) := by decide +kernel
theorem dX11_replies_99 : decode cX11_replies 99 = .ok (.getfield 9, 3) := by decide +kernel
theorem dX11_replies_102 : decode cX11_replies 102 = .ok (.iload_n 2, 1) := by decide +kernel
theorem dX11_replies_103 : decode cX11_replies 103 = .ok (.iconst 0, 1) := by decide +kernel
theorem dX11_replies_104 : decode cX11_replies 104 = .ok (.iadd, 1) := by decide +kernel
theorem dX11_replies_105 : decode cX11_replies 105 = .ok (.iaload, 1) := by decide +kernel
theorem dX11_replies_106 : decode cX11_replies 106 = .ok (.iconst 1, 1) := by decide +kernel
theorem dX11_replies_107 : decode cX11_replies 107 = .ok (.iconst 0, 1) := by decide +kernel
theorem dX11_replies_108 : decode cX11_replies 108 = .ok (.invokevirtual 144, 3) := by decide +kernel
theorem dX11_replies_111 : decode cX11_replies 111 = .ok (.istore_n 3, 1) := by decide +kernel
theorem dX11_replies_112 : decode cX11_replies 112 = .ok (.return_, 1) := by decide +kernel
theorem dX11_comes_0 : decode cX11_comes 0 = .ok (.iload_n 1, 1) := by decide +kernel
theorem dX11_comes_1 : decode cX11_comes 1 = .ok (.invokestatic 109, 3) := by decide +kernel
theorem dX11_comes_4 : decode cX11_comes 4 = .ok (.istore_n 2, 1) := by decide +kernel
theorem dX11_comes_5 : decode cX11_comes 5 = .ok (.aload_n 0, 1) := by decide +kernel
theorem dX11_comes_6 : decode cX11_comes 6 = .ok (.iload_n 1, 1) := by decide +kernel
theorem dX11_comes_7 : decode cX11_comes 7 = .ok (.invokevirtual 148, 3) := by decide +kernel
theorem dX11_comes_10 : decode cX11_comes 10 = .ok (.aload_n 0, 1) := by decide +kernel
theorem dX11_comes_11 : decode cX11_comes 11 = .ok (.getfield 9, 3) := by decide +kernel
theorem dX11_comes_14 : decode cX11_comes 14 = .ok (.iload_n 2, 1) := by decide +kernel
theorem dX11_comes_15 : decode cX11_comes 15 = .ok (.iconst 5, 1) := by decide +kernel
theorem dX11_comes_16 : decode cX11_comes 16 = .ok (.iadd, 1) := by decide +kernel
theorem dX11_comes_17 : decode cX11_comes 17 = .ok (.iconst (-1), 1) := by decide +kernel
theorem dX11_comes_18 : decode cX11_comes 18 = .ok (.iastore, 1) := by decide +kernel
theorem dX11_comes_19 : decode cX11_comes 19 = .ok (.aload_n 0, 1) := by decide +kernel
theorem dX11_comes_20 : decode cX11_comes 20 = .ok (.getfield 9, 3) := by decide +kernel
theorem dX11_comes_23 : decode cX11_comes 23 = .ok (.iload_n 2, 1) := by decide +kernel
theorem dX11_comes_24 : decode cX11_comes 24 = .ok (.iconst 3, 1) := by decide +kernel
theorem dX11_comes_25 : decode cX11_comes 25 = .ok (.iadd, 1) := by decide +kernel
theorem dX11_comes_26 : decode cX11_comes 26 = .ok (.iconst 0, 1) := by decide +kernel
theorem dX11_comes_27 : decode cX11_comes 27 = .ok (.iastore, 1) := by decide +kernel
theorem dX11_comes_28 : decode cX11_comes 28 = .ok (.aload_n 0, 1) := by decide +kernel
theorem dX11_comes_29 : decode cX11_comes 29 = .ok (.getfield 9, 3) := by decide +kernel
theorem dX11_comes_32 : decode cX11_comes 32 = .ok (.iload_n 2, 1) := by decide +kernel
theorem dX11_comes_33 : decode cX11_comes 33 = .ok (.iconst 4, 1) := by decide +kernel
theorem dX11_comes_34 : decode cX11_comes 34 = .ok (.iadd, 1) := by decide +kernel
theorem dX11_comes_35 : decode cX11_comes 35 = .ok (.iaload, 1) := by decide +kernel
theorem dX11_comes_36 : decode cX11_comes 36 = .ok (.aload_n 0, 1) := by decide +kernel
theorem dX11_comes_37 : decode cX11_comes 37 = .ok (.getfield 9, 3) := by decide +kernel
