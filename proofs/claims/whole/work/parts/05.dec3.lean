theorem dX11_comes_40 : decode cX11_comes 40 = .ok (.iload_n 2, 1) := by decide +kernel
theorem dX11_comes_41 : decode cX11_comes 41 = .ok (.iconst 1, 1) := by decide +kernel
theorem dX11_comes_42 : decode cX11_comes 42 = .ok (.iadd, 1) := by decide +kernel
theorem dX11_comes_43 : decode cX11_comes 43 = .ok (.iaload, 1) := by decide +kernel
theorem dX11_comes_44 : decode cX11_comes 44 = .ok (.if_icmp .eq 4, 3) := by decide +kernel
theorem dX11_comes_47 : decode cX11_comes 47 = .ok (.return_, 1) := by decide +kernel
theorem dX11_comes_48 : decode cX11_comes 48 = .ok (.aload_n 0, 1) := by decide +kernel
theorem dX11_comes_49 : decode cX11_comes 49 = .ok (.iload_n 1, 1) := by decide +kernel
theorem dX11_comes_50 : decode cX11_comes 50 = .ok (.invokevirtual 141, 3) := by decide +kernel
theorem dX11_comes_53 : decode cX11_comes 53 = .ok (.ifCond .le 64, 3) := by decide +kernel
theorem dX11_comes_56 : decode cX11_comes 56 = .ok (.aload_n 0, 1) := by decide +kernel
theorem dX11_comes_57 : decode cX11_comes 57 = .ok (.getfield 9, 3) := by decide +kernel
theorem dX11_comes_60 : decode cX11_comes 60 = .ok (.iload_n 2, 1) := by decide +kernel
theorem dX11_comes_61 : decode cX11_comes 61 = .ok (.bipush 8, 2) := by decide +kernel
theorem dX11_comes_63 : decode cX11_comes 63 = .ok (.iadd, 1) := by decide +kernel
theorem dX11_comes_64 : decode cX11_comes 64 = .ok (.iaload, 1) := by decide +kernel
theorem dX11_comes_65 : decode cX11_comes 65 = .ok (.aload_n 0, 1) := by decide +kernel
theorem dX11_comes_66 : decode cX11_comes 66 = .ok (.getfield 9, 3) := by decide +kernel
theorem dX11_comes_69 : decode cX11_comes 69 = .ok (.bipush 6, 2) := by decide +kernel
theorem dX11_comes_71 : decode cX11_comes 71 = .ok (.iaload, 1) := by decide +kernel
theorem dX11_comes_72 : decode cX11_comes 72 = .ok (.if_icmp .ge 45, 3) := by decide +kernel
theorem dX11_comes_75 : decode cX11_comes 75 = .ok (.aload_n 0, 1) := by decide +kernel
theorem dX11_comes_76 : decode cX11_comes 76 = .ok (.getfield 9, 3) := by decide +kernel
theorem dX11_comes_79 : decode cX11_comes 79 = .ok (.iload_n 2, 1) := by decide +kernel
theorem dX11_comes_80 : decode cX11_comes 80 = .ok (.bipush 8, 2) := by decide +kernel
theorem dX11_comes_82 : decode cX11_comes 82 = .ok (.iadd, 1) := by decide +kernel
theorem dX11_comes_83 : decode cX11_comes 83 = .ok (.dup2, 1) := by decide +kernel
theorem dX11_comes_84 : decode cX11_comes 84 = .ok (.iaload, 1) := by decide +kernel
theorem dX11_comes_85 : decode cX11_comes 85 = .ok (.iconst 1, 1) := by decide +kernel
theorem dX11_comes_86 : decode cX11_comes 86 = .ok (.iadd, 1) := by decide +kernel
theorem dX11_comes_87 : decode cX11_comes 87 = .ok (.iastore, 1) := by decide +kernel
theorem dX11_comes_88 : decode cX11_comes 88 = .ok (.aload_n 0, 1) := by decide +kernel
theorem dX11_comes_89 : decode cX11_comes 89 = .ok (.iload_n 1, 1) := by decide +kernel
theorem dX11_comes_90 : decode cX11_comes 90 = .ok (.invokevirtual 122, 3) := by decide +kernel
theorem dX11_comes_93 : decode cX11_comes 93 = .ok (.aload_n 0, 1) := by decide +kernel
theorem dX11_comes_94 : decode cX11_comes 94 = .ok (.getfield 9, 3) := by decide +kernel
theorem dX11_comes_97 : decode cX11_comes 97 = .ok (.iload_n 2, 1) := by decide +kernel
theorem dX11_comes_98 : decode cX11_comes 98 = .ok (.iconst 4, 1) := by decide +kernel
theorem dX11_comes_99 : decode cX11_comes 99 = .ok (.iadd, 1) := by decide +kernel
theorem dX11_comes_100 : decode cX11_comes 100 = .ok (.aload_n 0, 1) := by decide +kernel
theorem dX11_comes_101 : decode cX11_comes 101 = .ok (.getfield 9, 3) := by decide +kernel
theorem dX11_comes_104 : decode cX11_comes 104 = .ok (.iload_n 2, 1) := by decide +kernel
theorem dX11_comes_105 : decode cX11_comes 105 = .ok (.iconst 0, 1) := by decide +kernel
theorem dX11_comes_106 : decode cX11_comes 106 = .ok (.iadd, 1) := by decide +kernel
theorem dX11_comes_107 : decode cX11_comes 107 = .ok (.iaload, 1) := by decide +kernel
theorem dX11_comes_108 : decode cX11_comes 108 = .ok (.iastore, 1) := by decide +kernel
theorem dX11_comes_109 : decode cX11_comes 109 = .ok (.aload_n 0, 1) := by decide +kernel
theorem dX11_comes_110 : decode cX11_comes 110 = .ok (.bipush 7, 2) := by decide +kernel
theorem dX11_comes_112 : decode cX11_comes 112 = .ok (.iconst 1, 1) := by decide +kernel
theorem dX11_comes_113 : decode cX11_comes 113 = .ok (.invokevirtual 126, 3) := by decide +kernel
theorem dX11_comes_116 : decode cX11_comes 116 = .ok (.return_, 1) := by decide +kernel
theorem dX11_comes_117 : decode cX11_comes 117 = .ok (.aload_n 0, 1) := by decide +kernel
theorem dX11_comes_118 : decode cX11_comes 118 = .ok (.getfield 9, 3) := by decide +kernel
theorem dX11_comes_121 : decode cX11_comes 121 = .ok (.iload_n 2, 1) := by decide +kernel
theorem dX11_comes_122 : decode cX11_comes 122 = .ok (.iconst 3, 1) := by decide +kernel
theorem dX11_comes_123 : decode cX11_comes 123 = .ok (.iadd, 1) := by decide +kernel
theorem dX11_comes_124 : decode cX11_comes 124 = .ok (.iconst 2, 1) := by decide +kernel
theorem dX11_comes_125 : decode cX11_comes 125 = .ok (.iastore, 1) := by decide +kernel
theorem dX11_comes_126 : decode cX11_comes 126 = .ok (.aload_n 0, 1) := by decide +kernel
theorem dX11_comes_127 : decode cX11_comes 127 = .ok (.iconst 5, 1) := by decide +kernel
theorem dX11_comes_128 : decode cX11_comes 128 = .ok (.iconst 1, 1) := by decide +kernel
theorem dX11_comes_129 : decode cX11_comes 129 = .ok (.invokevirtual 126, 3) := by decide +kernel
theorem dX11_comes_132 : decode cX11_comes 132 = .ok (.aload_n 0, 1) := by decide +kernel
theorem dX11_comes_133 : decode cX11_comes 133 = .ok (.bipush 6, 2) := by decide +kernel
theorem dX11_comes_135 : decode cX11_comes 135 = .ok (.aload_n 0, 1) := by decide +kernel
theorem dX11_comes_136 : decode cX11_comes 136 = .ok (.iload_n 1, 1) := by decide +kernel
theorem dX11_comes_137 : decode cX11_comes 137 = .ok (.invokevirtual 141, 3) := by decide +kernel
theorem dX11_comes_140 : decode cX11_comes 140 = .ok (.ifCond .ne 7, 3) := by decide +kernel
theorem dX11_comes_143 : decode cX11_comes 143 = .ok (.iconst 1, 1) := by decide +kernel
theorem dX11_comes_144 : decode cX11_comes 144 = .ok (.goto 4, 3) := by decide +kernel
theorem dX11_comes_147 : decode cX11_comes 147 = .ok (.iconst 0, 1) := by decide +kernel
theorem dX11_comes_148 : decode cX11_comes 148 = .ok (.invokestatic 115, 3) := by decide +kernel
theorem dX11_comes_151 : decode cX11_comes 151 = .ok (.invokevirtual 126, 3) := by decide +kernel
theorem dX11_comes_154 : decode cX11_comes 154 = .ok (.aload_n 0, 1) := by decide +kernel
theorem dX11_comes_155 : decode cX11_comes 155 = .ok (.iload_n 1, 1) := by decide +kernel
theorem dX11_comes_156 : decode cX11_comes 156 = .ok (.invokevirtual 151, 3) := by decide +kernel
theorem dX11_comes_159 : decode cX11_comes 159 = .ok (.return_, 1) := by decide +kernel
theorem dX11_feeAt_0 : decode cX11_feeAt 0 = .ok (.aload_n 0, 1) := by decide +kernel
theorem dX11_feeAt_1 : decode cX11_feeAt 1 = .ok (.getfield 9, 3) := by decide +kernel
theorem dX11_feeAt_4 : decode cX11_feeAt 4 = .ok (.iload_n 2, 1) := by decide +kernel
theorem dX11_feeAt_5 : decode cX11_feeAt 5 = .ok (.invokestatic 84, 3) := by decide +kernel
theorem dX11_feeAt_8 : decode cX11_feeAt 8 = .ok (.bipush 9, 2) := by decide +kernel
theorem dX11_feeAt_10 : decode cX11_feeAt 10 = .ok (.iadd, 1) := by decide +kernel
theorem dX11_feeAt_11 : decode cX11_feeAt 11 = .ok (.iaload, 1) := by decide +kernel
theorem dX11_feeAt_12 : decode cX11_feeAt 12 = .ok (.aload_n 0, 1) := by decide +kernel
theorem dX11_feeAt_13 : decode cX11_feeAt 13 = .ok (.iload_n 1, 1) := by decide +kernel
theorem dX11_feeAt_14 : decode cX11_feeAt 14 = .ok (.invokevirtual 154, 3) := by decide +kernel
theorem dX11_feeAt_17 : decode cX11_feeAt 17 = .ok (.imul, 1) := by decide +kernel
theorem dX11_feeAt_18 : decode cX11_feeAt 18 = .ok (.ireturn, 1) := by decide +kernel
theorem dX11_purseFor_0 : decode cX11_purseFor 0 = .ok (.aload_n 0, 1) := by decide +kernel
theorem dX11_purseFor_1 : decode cX11_purseFor 1 = .ok (.getfield 9, 3) := by decide +kernel
theorem dX11_purseFor_4 : decode cX11_purseFor 4 = .ok (.aload_n 0, 1) := by decide +kernel
theorem dX11_purseFor_5 : decode cX11_purseFor 5 = .ok (.getfield 9, 3) := by decide +kernel
theorem dX11_purseFor_8 : decode cX11_purseFor 8 = .ok (.iload_n 1, 1) := by decide +kernel
theorem dX11_purseFor_9 : decode cX11_purseFor 9 = .ok (.invokestatic 109, 3) := by decide +kernel
theorem dX11_purseFor_12 : decode cX11_purseFor 12 = .ok (.iconst 0, 1) := by decide +kernel
theorem dX11_purseFor_13 : decode cX11_purseFor 13 = .ok (.iadd, 1) := by decide +kernel
theorem dX11_purseFor_14 : decode cX11_purseFor 14 = .ok (.iaload, 1) := by decide +kernel
theorem dX11_purseFor_15 : decode cX11_purseFor 15 = .ok (.invokestatic 84, 3) := by decide +kernel
theorem dX11_purseFor_18 : decode cX11_purseFor 18 = .ok (.bipush 10, 2) := by decide +kernel
theorem dX11_purseFor_20 : decode cX11_purseFor 20 = .ok (.iadd, 1) := by decide +kernel
theorem dX11_purseFor_21 : decode cX11_purseFor 21 = .ok (.iaload, 1) := by decide +kernel
theorem dX11_purseFor_22 : decode cX11_purseFor 22 = .ok (.ireturn, 1) := by decide +kernel
theorem dX11_firstAt_0 : decode cX11_firstAt 0 = .ok (.iconst (-1), 1) := by decide +kernel
theorem dX11_firstAt_1 : decode cX11_firstAt 1 = .ok (.istore_n 2, 1) := by decide +kernel
theorem dX11_firstAt_2 : decode cX11_firstAt 2 = .ok (.iconst 0, 1) := by decide +kernel
theorem dX11_firstAt_3 : decode cX11_firstAt 3 = .ok (.istore_n 3, 1) := by decide +kernel
theorem dX11_firstAt_4 : decode cX11_firstAt 4 = .ok (.iload_n 3, 1) := by decide +kernel
theorem dX11_firstAt_5 : decode cX11_firstAt 5 = .ok (.aload_n 0, 1) := by decide +kernel
theorem dX11_firstAt_6 : decode cX11_firstAt 6 = .ok (.getfield 9, 3) := by decide +kernel
theorem dX11_firstAt_9 : decode cX11_firstAt 9 = .ok (.iconst 2, 1) := by decide +kernel
theorem dX11_firstAt_10 : decode cX11_firstAt 10 = .ok (.iaload, 1) := by decide +kernel
theorem dX11_firstAt_11 : decode cX11_firstAt 11 = .ok (.if_icmp .ge 91, 3) := by decide +kernel
theorem dX11_firstAt_14 : decode cX11_firstAt 14 = .ok (.aload_n 0, 1) := by decide +kernel
theorem dX11_firstAt_15 : decode cX11_firstAt 15 = .ok (.iload_n 3, 1) := by decide +kernel
theorem dX11_firstAt_16 : decode cX11_firstAt 16 = .ok (.iload_n 1, 1) := by decide +kernel
theorem dX11_firstAt_17 : decode cX11_firstAt 17 = .ok (.invokevirtual 157, 3) := by decide +kernel
theorem dX11_firstAt_20 : decode cX11_firstAt 20 = .ok (.ifCond .eq 76, 3) := by decide +kernel
theorem dX11_firstAt_23 : decode cX11_firstAt 23 = .ok (.iload_n 2, 1) := by decide +kernel
theorem dX11_firstAt_24 : decode cX11_firstAt 24 = .ok (.iconst (-1), 1) := by decide +kernel
theorem dX11_firstAt_25 : decode cX11_firstAt 25 = .ok (.if_icmp .eq 19, 3) := by decide +kernel
theorem dX11_firstAt_28 : decode cX11_firstAt 28 = .ok (.aload_n 0, 1) := by decide +kernel
theorem dX11_firstAt_29 : decode cX11_firstAt 29 = .ok (.iload_n 3, 1) := by decide +kernel
theorem dX11_firstAt_30 : decode cX11_firstAt 30 = .ok (.invokevirtual 154, 3) := by decide +kernel
theorem dX11_firstAt_33 : decode cX11_firstAt 33 = .ok (.aload_n 0, 1) := by decide +kernel
theorem dX11_firstAt_34 : decode cX11_firstAt 34 = .ok (.iload_n 2, 1) := by decide +kernel
theorem dX11_firstAt_35 : decode cX11_firstAt 35 = .ok (.invokevirtual 154, 3) := by decide +kernel
theorem dX11_firstAt_38 : decode cX11_firstAt 38 = .ok (.if_icmp .gt 6, 3) := by decide +kernel
theorem dX11_firstAt_41 : decode cX11_firstAt 41 = .ok (.goto 55, 3) := by decide +kernel
theorem dX11_firstAt_44 : decode cX11_firstAt 44 = .ok (.aload_n 0, 1) := by decide +kernel
theorem dX11_firstAt_45 : decode cX11_firstAt 45 = .ok (.iload_n 3, 1) := by decide +kernel
theorem dX11_firstAt_46 : decode cX11_firstAt 46 = .ok (.invokevirtual 160, 3) := by decide +kernel
theorem dX11_firstAt_49 : decode cX11_firstAt 49 = .ok (.aload_n 0, 1) := by decide +kernel
theorem dX11_firstAt_50 : decode cX11_firstAt 50 = .ok (.iload_n 3, 1) := by decide +kernel
theorem dX11_firstAt_51 : decode cX11_firstAt 51 = .ok (.iload_n 1, 1) := by decide +kernel
theorem dX11_firstAt_52 : decode cX11_firstAt 52 = .ok (.invokevirtual 163, 3) := by decide +kernel
theorem dX11_firstAt_55 : decode cX11_firstAt 55 = .ok (.if_icmp .lt 27, 3) := by decide +kernel
theorem dX11_firstAt_58 : decode cX11_firstAt 58 = .ok (.aload_n 0, 1) := by decide +kernel
theorem dX11_firstAt_59 : decode cX11_firstAt 59 = .ok (.iload_n 1, 1) := by decide +kernel
theorem dX11_firstAt_60 : decode cX11_firstAt 60 = .ok (.aload_n 0, 1) := by decide +kernel
theorem dX11_firstAt_61 : decode cX11_firstAt 61 = .ok (.getfield 9, 3) := by decide +kernel
theorem dX11_firstAt_64 : decode cX11_firstAt 64 = .ok (.iload_n 3, 1) := by decide +kernel
theorem dX11_firstAt_65 : decode cX11_firstAt 65 = .ok (.invokestatic 109, 3) := by decide +kernel
theorem dX11_firstAt_68 : decode cX11_firstAt 68 = .ok (.iconst 1, 1) := by decide +kernel
theorem dX11_firstAt_69 : decode cX11_firstAt 69 = .ok (.iadd, 1) := by decide +kernel
theorem dX11_firstAt_70 : decode cX11_firstAt 70 = .ok (.iaload, 1) := by decide +kernel
theorem dX11_firstAt_71 : decode cX11_firstAt 71 = .ok (.invokevirtual 166, 3) := by decide +kernel
theorem dX11_firstAt_74 : decode cX11_firstAt 74 = .ok (.iconst (-1), 1) := by decide +kernel
theorem dX11_firstAt_75 : decode cX11_firstAt 75 = .ok (.if_icmp .eq 7, 3) := by decide +kernel
theorem dX11_firstAt_78 : decode cX11_firstAt 78 = .ok (.iconst 1, 1) := by decide +kernel
theorem dX11_firstAt_79 : decode cX11_firstAt 79 = .ok (.goto 4, 3) := by decide +kernel
theorem dX11_firstAt_82 : decode cX11_firstAt 82 = .ok (.iconst 0, 1) := by decide +kernel
theorem dX11_firstAt_83 : decode cX11_firstAt 83 = .ok (.istore 4, 2) := by decide +kernel
theorem dX11_firstAt_85 : decode cX11_firstAt 85 = .ok (.iload 4, 2) := by decide +kernel
theorem dX11_firstAt_87 : decode cX11_firstAt 87 = .ok (.ifCond .eq 7, 3) := by decide +kernel
theorem dX11_firstAt_90 : decode cX11_firstAt 90 = .ok (.iload_n 3, 1) := by decide +kernel
theorem dX11_firstAt_91 : decode cX11_firstAt 91 = .ok (.goto 4, 3) := by decide +kernel
theorem dX11_firstAt_94 : decode cX11_firstAt 94 = .ok (.iload_n 2, 1) := by decide +kernel
theorem dX11_firstAt_95 : decode cX11_firstAt 95 = .ok (.istore_n 2, 1) := by decide +kernel
theorem dX11_firstAt_96 : decode cX11_firstAt 96 = .ok (.iinc 3 1, 3) := by decide +kernel
theorem dX11_firstAt_99 : decode cX11_firstAt 99 = .ok (.goto (-95), 3) := by decide +kernel
theorem dX11_firstAt_102 : decode cX11_firstAt 102 = .ok (.iload_n 2, 1) := by decide +kernel
theorem dX11_firstAt_103 : decode cX11_firstAt 103 = .ok (.ireturn, 1) := by decide +kernel
theorem dX11_whistles_0 : decode cX11_whistles 0 = .ok (.iload_n 1, 1) := by decide +kernel
theorem dX11_whistles_1 : decode cX11_whistles 1 = .ok (.invokestatic 109, 3) := by decide +kernel
theorem dX11_whistles_4 : decode cX11_whistles 4 = .ok (.istore_n 3, 1) := by decide +kernel
theorem dX11_whistles_5 : decode cX11_whistles 5 = .ok (.aload_n 0, 1) := by decide +kernel
theorem dX11_whistles_6 : decode cX11_whistles 6 = .ok (.iload_n 2, 1) := by decide +kernel
theorem dX11_whistles_7 : decode cX11_whistles 7 = .ok (.aload_n 0, 1) := by decide +kernel
theorem dX11_whistles_8 : decode cX11_whistles 8 = .ok (.getfield 9, 3) := by decide +kernel
theorem dX11_whistles_11 : decode cX11_whistles 11 = .ok (.iload_n 3, 1) := by decide +kernel
theorem dX11_whistles_12 : decode cX11_whistles 12 = .ok (.iconst 1, 1) := by decide +kernel
theorem dX11_whistles_13 : decode cX11_whistles 13 = .ok (.iadd, 1) := by decide +kernel
theorem dX11_whistles_14 : decode cX11_whistles 14 = .ok (.iaload, 1) := by decide +kernel
theorem dX11_whistles_15 : decode cX11_whistles 15 = .ok (.invokevirtual 166, 3) := by decide +kernel
theorem dX11_whistles_18 : decode cX11_whistles 18 = .ok (.istore 4, 2) := by decide +kernel
theorem dX11_whistles_20 : decode cX11_whistles 20 = .ok (.aload_n 0, 1) := by decide +kernel
theorem dX11_whistles_21 : decode cX11_whistles 21 = .ok (.iload_n 1, 1) := by decide +kernel
theorem dX11_whistles_22 : decode cX11_whistles 22 = .ok (.iload_n 2, 1) := by decide +kernel
theorem dX11_whistles_23 : decode cX11_whistles 23 = .ok (.invokevirtual 163, 3) := by decide +kernel
theorem dX11_whistles_26 : decode cX11_whistles 26 = .ok (.istore 5, 2) := by decide +kernel
theorem dX11_whistles_28 : decode cX11_whistles 28 = .ok (.aload_n 0, 1) := by decide +kernel
theorem dX11_whistles_29 : decode cX11_whistles 29 = .ok (.getfield 9, 3) := by decide +kernel
theorem dX11_whistles_32 : decode cX11_whistles 32 = .ok (.aload_n 0, 1) := by decide +kernel
theorem dX11_whistles_33 : decode cX11_whistles 33 = .ok (.getfield 9, 3) := by decide +kernel
theorem dX11_whistles_36 : decode cX11_whistles 36 = .ok (.iload_n 3, 1) := by decide +kernel
theorem dX11_whistles_37 : decode cX11_whistles 37 = .ok (.iconst 0, 1) := by decide +kernel
theorem dX11_whistles_38 : decode cX11_whistles 38 = .ok (.iadd, 1) := by decide +kernel
theorem dX11_whistles_39 : decode cX11_whistles 39 = .ok (.iaload, 1) := by decide +kernel
theorem dX11_whistles_40 : decode cX11_whistles 40 = .ok (.invokestatic 84, 3) := by decide +kernel
theorem dX11_whistles_43 : decode cX11_whistles 43 = .ok (.bipush 10, 2) := by decide +kernel
theorem dX11_whistles_45 : decode cX11_whistles 45 = .ok (.iadd, 1) := by decide +kernel
theorem dX11_whistles_46 : decode cX11_whistles 46 = .ok (.dup2, 1) := by decide +kernel
theorem dX11_whistles_47 : decode cX11_whistles 47 = .ok (.iaload, 1) := by decide +kernel
theorem dX11_whistles_48 : decode cX11_whistles 48 = .ok (.iload 5, 2) := by decide +kernel
theorem dX11_whistles_50 : decode cX11_whistles 50 = .ok (.isub, 1) := by decide +kernel
theorem dX11_whistles_51 : decode cX11_whistles 51 = .ok (.iastore, 1) := by decide +kernel
theorem dX11_whistles_52 : decode cX11_whistles 52 = .ok (.aload_n 0, 1) := by decide +kernel
theorem dX11_whistles_53 : decode cX11_whistles 53 = .ok (.getfield 9, 3) := by decide +kernel
theorem dX11_whistles_56 : decode cX11_whistles 56 = .ok (.iload_n 2, 1) := by decide +kernel
theorem dX11_whistles_57 : decode cX11_whistles 57 = .ok (.invokestatic 84, 3) := by decide +kernel
theorem dX11_whistles_60 : decode cX11_whistles 60 = .ok (.bipush 10, 2) := by decide +kernel
theorem dX11_whistles_62 : decode cX11_whistles 62 = .ok (.iadd, 1) := by decide +kernel
theorem dX11_whistles_63 : decode cX11_whistles 63 = .ok (.dup2, 1) := by decide +kernel
theorem dX11_whistles_64 : decode cX11_whistles 64 = .ok (.iaload, 1) := by decide +kernel
theorem dX11_whistles_65 : decode cX11_whistles 65 = .ok (.iload 5, 2) := by decide +kernel
theorem dX11_whistles_67 : decode cX11_whistles 67 = .ok (.iadd, 1) := by decide +kernel
theorem dX11_whistles_68 : decode cX11_whistles 68 = .ok (.iastore, 1) := by decide +kernel
theorem dX11_whistles_69 : decode cX11_whistles 69 = .ok (.aload_n 0, 1) := by decide +kernel
theorem dX11_whistles_70 : decode cX11_whistles 70 = .ok (.getfield 9, 3) := by decide +kernel
theorem dX11_whistles_73 : decode cX11_whistles 73 = .ok (.iload_n 2, 1) := by decide +kernel
theorem dX11_whistles_74 : decode cX11_whistles 74 = .ok (.invokestatic 84, 3) := by decide +kernel
theorem dX11_whistles_77 : decode cX11_whistles 77 = .ok (.bipush 7, 2) := by decide +kernel
theorem dX11_whistles_79 : decode cX11_whistles 79 = .ok (.iadd, 1) := by decide +kernel
theorem dX11_whistles_80 : decode cX11_whistles 80 = .ok (.iaload, 1) := by decide +kernel
theorem dX11_whistles_81 : decode cX11_whistles 81 = .ok (.istore 6, 2) := by decide +kernel
theorem dX11_whistles_83 : decode cX11_whistles 83 = .ok (.aload_n 0, 1) := by decide +kernel
theorem dX11_whistles_84 : decode cX11_whistles 84 = .ok (.getfield 9, 3) := by decide +kernel
theorem dX11_whistles_87 : decode cX11_whistles 87 = .ok (.iload_n 2, 1) := by decide +kernel
theorem dX11_whistles_88 : decode cX11_whistles 88 = .ok (.invokestatic 84, 3) := by decide +kernel
theorem dX11_whistles_91 : decode cX11_whistles 91 = .ok (.bipush 11, 2) := by decide +kernel
theorem dX11_whistles_93 : decode cX11_whistles 93 = .ok (.iadd, 1) := by decide +kernel
theorem dX11_whistles_94 : decode cX11_whistles 94 = .ok (.aload_n 0, 1) := by decide +kernel
theorem dX11_whistles_95 : decode cX11_whistles 95 = .ok (.getfield 9, 3) := by decide +kernel
theorem dX11_whistles_98 : decode cX11_whistles 98 = .ok (.iconst 3, 1) := by decide +kernel
theorem dX11_whistles_99 : decode cX11_whistles 99 = .ok (.iaload, 1) := by decide +kernel
theorem dX11_whistles_100 : decode cX11_whistles 100 = .ok (.aload_n 0, 1) := by decide +kernel
theorem dX11_whistles_101 : decode cX11_whistles 101 = .ok (.getfield 9, 3) := by decide +kernel
theorem dX11_whistles_104 : decode cX11_whistles 104 = .ok (.iload_n 3, 1) := by decide +kernel
theorem dX11_whistles_105 : decode cX11_whistles 105 = .ok (.iconst 2, 1) := by decide +kernel
theorem dX11_whistles_106 : decode cX11_whistles 106 = .ok (.iadd, 1) := by decide +kernel
theorem dX11_whistles_107 : decode cX11_whistles 107 = .ok (.iaload, 1) := by decide +kernel
theorem dX11_whistles_108 : decode cX11_whistles 108 = .ok (.iload 6, 2) := by decide +kernel
theorem dX11_whistles_110 : decode cX11_whistles 110 = .ok (.iadd, 1) := by decide +kernel
theorem dX11_whistles_111 : decode cX11_whistles 111 = .ok (.iconst 1, 1) := by decide +kernel
theorem dX11_whistles_112 : decode cX11_whistles 112 = .ok (.isub, 1) := by decide +kernel
theorem dX11_whistles_113 : decode cX11_whistles 113 = .ok (.iload 6, 2) := by decide +kernel
theorem dX11_whistles_115 : decode cX11_whistles 115 = .ok (.idiv, 1) := by decide +kernel
theorem dX11_whistles_116 : decode cX11_whistles 116 = .ok (.iadd, 1) := by decide +kernel
theorem dX11_whistles_117 : decode cX11_whistles 117 = .ok (.iastore, 1) := by decide +kernel
theorem dX11_whistles_118 : decode cX11_whistles 118 = .ok (.aload_n 0, 1) := by decide +kernel
theorem dX11_whistles_119 : decode cX11_whistles 119 = .ok (.getfield 9, 3) := by decide +kernel
theorem dX11_whistles_122 : decode cX11_whistles 122 = .ok (.iload_n 2, 1) := by decide +kernel
theorem dX11_whistles_123 : decode cX11_whistles 123 = .ok (.invokestatic 84, 3) := by decide +kernel
theorem dX11_whistles_126 : decode cX11_whistles 126 = .ok (.bipush 12, 2) := by decide +kernel
theorem dX11_whistles_128 : decode cX11_whistles 128 = .ok (.iadd, 1) := by decide +kernel
theorem dX11_whistles_129 : decode cX11_whistles 129 = .ok (.dup2, 1) := by decide +kernel
theorem dX11_whistles_130 : decode cX11_whistles 130 = .ok (.iaload, 1) := by decide +kernel
theorem dX11_whistles_131 : decode cX11_whistles 131 = .ok (.iconst 1, 1) := by decide +kernel
theorem dX11_whistles_132 : decode cX11_whistles 132 = .ok (.iadd, 1) := by decide +kernel
theorem dX11_whistles_133 : decode cX11_whistles 133 = .ok (.iastore, 1) := by decide +kernel
theorem dX11_whistles_134 : decode cX11_whistles 134 = .ok (.aload_n 0, 1) := by decide +kernel
theorem dX11_whistles_135 : decode cX11_whistles 135 = .ok (.getfield 9, 3) := by decide +kernel
theorem dX11_whistles_138 : decode cX11_whistles 138 = .ok (.iload_n 3, 1) := by decide +kernel
theorem dX11_whistles_139 : decode cX11_whistles 139 = .ok (.bipush 10, 2) := by decide +kernel
theorem dX11_whistles_141 : decode cX11_whistles 141 = .ok (.iadd, 1) := by decide +kernel
theorem dX11_whistles_142 : decode cX11_whistles 142 = .ok (.aload_n 0, 1) := by decide +kernel
theorem dX11_whistles_143 : decode cX11_whistles 143 = .ok (.getfield 9, 3) := by decide +kernel
theorem dX11_whistles_146 : decode cX11_whistles 146 = .ok (.aload_n 0, 1) := by decide +kernel
theorem dX11_whistles_147 : decode cX11_whistles 147 = .ok (.iload_n 2, 1) := by decide +kernel
theorem dX11_whistles_148 : decode cX11_whistles 148 = .ok (.iload 4, 2) := by decide +kernel
theorem dX11_whistles_150 : decode cX11_whistles 150 = .ok (.invokevirtual 169, 3) := by decide +kernel
theorem dX11_whistles_153 : decode cX11_whistles 153 = .ok (.invokestatic 88, 3) := by decide +kernel
theorem dX11_whistles_156 : decode cX11_whistles 156 = .ok (.iconst 2, 1) := by decide +kernel
theorem dX11_whistles_157 : decode cX11_whistles 157 = .ok (.iadd, 1) := by decide +kernel
theorem dX11_whistles_158 : decode cX11_whistles 158 = .ok (.iaload, 1) := by decide +kernel
theorem dX11_whistles_159 : decode cX11_whistles 159 = .ok (.iastore, 1) := by decide +kernel
theorem dX11_whistles_160 : decode cX11_whistles 160 = .ok (.aload_n 0, 1) := by decide +kernel
theorem dX11_whistles_161 : decode cX11_whistles 161 = .ok (.getfield 9, 3) := by decide +kernel
theorem dX11_whistles_164 : decode cX11_whistles 164 = .ok (.iload_n 3, 1) := by decide +kernel
theorem dX11_whistles_165 : decode cX11_whistles 165 = .ok (.iconst 5, 1) := by decide +kernel
theorem dX11_whistles_166 : decode cX11_whistles 166 = .ok (.iadd, 1) := by decide +kernel
theorem dX11_whistles_167 : decode cX11_whistles 167 = .ok (.aload_n 0, 1) := by decide +kernel
theorem dX11_whistles_168 : decode cX11_whistles 168 = .ok (.getfield 9, 3) := by decide +kernel
theorem dX11_whistles_171 : decode cX11_whistles 171 = .ok (.iload_n 2, 1) := by decide +kernel
theorem dX11_whistles_172 : decode cX11_whistles 172 = .ok (.invokestatic 84, 3) := by decide +kernel
theorem dX11_whistles_175 : decode cX11_whistles 175 = .ok (.bipush 11, 2) := by decide +kernel
theorem dX11_whistles_177 : decode cX11_whistles 177 = .ok (.iadd, 1) := by decide +kernel
theorem dX11_whistles_178 : decode cX11_whistles 178 = .ok (.iaload, 1) := by decide +kernel
theorem dX11_whistles_179 : decode cX11_whistles 179 = .ok (.aload_n 0, 1) := by decide +kernel
theorem dX11_whistles_180 : decode cX11_whistles 180 = .ok (.getfield 9, 3) := by decide +kernel
theorem dX11_whistles_183 : decode cX11_whistles 183 = .ok (.iload_n 3, 1) := by decide +kernel
theorem dX11_whistles_184 : decode cX11_whistles 184 = .ok (.bipush 10, 2) := by decide +kernel
theorem dX11_whistles_186 : decode cX11_whistles 186 = .ok (.iadd, 1) := by decide +kernel
theorem dX11_whistles_187 : decode cX11_whistles 187 = .ok (.iaload, 1) := by decide +kernel
theorem dX11_whistles_188 : decode cX11_whistles 188 = .ok (.iadd, 1) := by decide +kernel
theorem dX11_whistles_189 : decode cX11_whistles 189 = .ok (.iastore, 1) := by decide +kernel
theorem dX11_whistles_190 : decode cX11_whistles 190 = .ok (.aload_n 0, 1) := by decide +kernel
theorem dX11_whistles_191 : decode cX11_whistles 191 = .ok (.getfield 9, 3) := by decide +kernel
theorem dX11_whistles_194 : decode cX11_whistles 194 = .ok (.iload_n 3, 1) := by decide +kernel
theorem dX11_whistles_195 : decode cX11_whistles 195 = .ok (.iconst 4, 1) := by decide +kernel
theorem dX11_whistles_196 : decode cX11_whistles 196 = .ok (.iadd, 1) := by decide +kernel
theorem dX11_whistles_197 : decode cX11_whistles 197 = .ok (.iload 4, 2) := by decide +kernel
theorem dX11_whistles_199 : decode cX11_whistles 199 = .ok (.iastore, 1) := by decide +kernel
theorem dX11_whistles_200 : decode cX11_whistles 200 = .ok (.aload_n 0, 1) := by decide +kernel
theorem dX11_whistles_201 : decode cX11_whistles 201 = .ok (.getfield 9, 3) := by decide +kernel
theorem dX11_whistles_204 : decode cX11_whistles 204 = .ok (.iload_n 3, 1) := by decide +kernel
theorem dX11_whistles_205 : decode cX11_whistles 205 = .ok (.iconst 3, 1) := by decide +kernel
theorem dX11_whistles_206 : decode cX11_whistles 206 = .ok (.iadd, 1) := by decide +kernel
theorem dX11_whistles_207 : decode cX11_whistles 207 = .ok (.iconst 1, 1) := by decide +kernel
theorem dX11_whistles_208 : decode cX11_whistles 208 = .ok (.iastore, 1) := by decide +kernel
theorem dX11_whistles_209 : decode cX11_whistles 209 = .ok (.aload_n 0, 1) := by decide +kernel
theorem dX11_whistles_210 : decode cX11_whistles 210 = .ok (.getfield 9, 3) := by decide +kernel
theorem dX11_whistles_213 : decode cX11_whistles 213 = .ok (.iload_n 3, 1) := by decide +kernel
theorem dX11_whistles_214 : decode cX11_whistles 214 = .ok (.bipush 9, 2) := by decide +kernel
theorem dX11_whistles_216 : decode cX11_whistles 216 = .ok (.iadd, 1) := by decide +kernel
theorem dX11_whistles_217 : decode cX11_whistles 217 = .ok (.dup2, 1) := by decide +kernel
theorem dX11_whistles_218 : decode cX11_whistles 218 = .ok (.iaload, 1) := by decide +kernel
theorem dX11_whistles_219 : decode cX11_whistles 219 = .ok (.iconst 1, 1) := by decide +kernel
theorem dX11_whistles_220 : decode cX11_whistles 220 = .ok (.iadd, 1) := by decide +kernel
theorem dX11_whistles_221 : decode cX11_whistles 221 = .ok (.iastore, 1) := by decide +kernel
theorem dX11_whistles_222 : decode cX11_whistles 222 = .ok (.aload_n 0, 1) := by decide +kernel
theorem dX11_whistles_223 : decode cX11_whistles 223 = .ok (.iconst 3, 1) := by decide +kernel
theorem dX11_whistles_224 : decode cX11_whistles 224 = .ok (.iconst 1, 1) := by decide +kernel
theorem dX11_whistles_225 : decode cX11_whistles 225 = .ok (.invokevirtual 126, 3) := by decide +kernel
theorem dX11_whistles_228 : decode cX11_whistles 228 = .ok (.aload_n 0, 1) := by decide +kernel
theorem dX11_whistles_229 : decode cX11_whistles 229 = .ok (.bipush 9, 2) := by decide +kernel
theorem dX11_whistles_231 : decode cX11_whistles 231 = .ok (.iload 5, 2) := by decide +kernel
theorem dX11_whistles_233 : decode cX11_whistles 233 = .ok (.invokevirtual 126, 3) := by decide +kernel
theorem dX11_whistles_236 : decode cX11_whistles 236 = .ok (.return_, 1) := by decide +kernel
theorem dX11_arrives_0 : decode cX11_arrives 0 = .ok (.aload_n 0, 1) := by decide +kernel
theorem dX11_arrives_1 : decode cX11_arrives 1 = .ok (.getfield 9, 3) := by decide +kernel
theorem dX11_arrives_4 : decode cX11_arrives 4 = .ok (.iconst 2, 1) := by decide +kernel
theorem dX11_arrives_5 : decode cX11_arrives 5 = .ok (.iaload, 1) := by decide +kernel
theorem dX11_arrives_6 : decode cX11_arrives 6 = .ok (.istore_n 1, 1) := by decide +kernel
theorem dX11_arrives_7 : decode cX11_arrives 7 = .ok (.iconst 0, 1) := by decide +kernel
theorem dX11_arrives_8 : decode cX11_arrives 8 = .ok (.istore_n 2, 1) := by decide +kernel
theorem dX11_arrives_9 : decode cX11_arrives 9 = .ok (.iload_n 2, 1) := by decide +kernel
theorem dX11_arrives_10 : decode cX11_arrives 10 = .ok (.iload_n 1, 1) := by decide +kernel
theorem dX11_arrives_11 : decode cX11_arrives 11 = .ok (.if_icmp .ge 49, 3) := by decide +kernel
theorem dX11_arrives_14 : decode cX11_arrives 14 = .ok (.aload_n 0, 1) := by decide +kernel
theorem dX11_arrives_15 : decode cX11_arrives 15 = .ok (.getfield 9, 3) := by decide +kernel
theorem dX11_arrives_18 : decode cX11_arrives 18 = .ok (.iload_n 2, 1) := by decide +kernel
theorem dX11_arrives_19 : decode cX11_arrives 19 = .ok (.invokestatic 109, 3) := by decide +kernel
theorem dX11_arrives_22 : decode cX11_arrives 22 = .ok (.iconst 3, 1) := by decide +kernel
theorem dX11_arrives_23 : decode cX11_arrives 23 = .ok (.iadd, 1) := by decide +kernel
theorem dX11_arrives_24 : decode cX11_arrives 24 = .ok (.iaload, 1) := by decide +kernel
theorem dX11_arrives_25 : decode cX11_arrives 25 = .ok (.iconst 1, 1) := by decide +kernel
theorem dX11_arrives_26 : decode cX11_arrives 26 = .ok (.if_icmp .ne 28, 3) := by decide +kernel
theorem dX11_arrives_29 : decode cX11_arrives 29 = .ok (.aload_n 0, 1) := by decide +kernel
theorem dX11_arrives_30 : decode cX11_arrives 30 = .ok (.getfield 9, 3) := by decide +kernel
theorem dX11_arrives_33 : decode cX11_arrives 33 = .ok (.iload_n 2, 1) := by decide +kernel
theorem dX11_arrives_34 : decode cX11_arrives 34 = .ok (.invokestatic 109, 3) := by decide +kernel
theorem dX11_arrives_37 : decode cX11_arrives 37 = .ok (.iconst 5, 1) := by decide +kernel
theorem dX11_arrives_38 : decode cX11_arrives 38 = .ok (.iadd, 1) := by decide +kernel
theorem dX11_arrives_39 : decode cX11_arrives 39 = .ok (.iaload, 1) := by decide +kernel
theorem dX11_arrives_40 : decode cX11_arrives 40 = .ok (.aload_n 0, 1) := by decide +kernel
theorem dX11_arrives_41 : decode cX11_arrives 41 = .ok (.getfield 9, 3) := by decide +kernel
theorem dX11_arrives_44 : decode cX11_arrives 44 = .ok (.iconst 3, 1) := by decide +kernel
theorem dX11_arrives_45 : decode cX11_arrives 45 = .ok (.iaload, 1) := by decide +kernel
theorem dX11_arrives_46 : decode cX11_arrives 46 = .ok (.if_icmp .ne 8, 3) := by decide +kernel
theorem dX11_arrives_49 : decode cX11_arrives 49 = .ok (.aload_n 0, 1) := by decide +kernel
theorem dX11_arrives_50 : decode cX11_arrives 50 = .ok (.iload_n 2, 1) := by decide +kernel
theorem dX11_arrives_51 : decode cX11_arrives 51 = .ok (.invokevirtual 172, 3) := by decide +kernel
theorem dX11_arrives_54 : decode cX11_arrives 54 = .ok (.iinc 2 1, 3) := by decide +kernel
theorem dX11_arrives_57 : decode cX11_arrives 57 = .ok (.goto (-48), 3) := by decide +kernel
theorem dX11_arrives_60 : decode cX11_arrives 60 = .ok (.return_, 1) := by decide +kernel
theorem dX11_loses_0 : decode cX11_loses 0 = .ok (.iconst 0, 1) := by decide +kernel
theorem dX11_loses_1 : decode cX11_loses 1 = .ok (.istore_n 1, 1) := by decide +kernel
theorem dX11_loses_2 : decode cX11_loses 2 = .ok (.iload_n 1, 1) := by decide +kernel
theorem dX11_loses_3 : decode cX11_loses 3 = .ok (.aload_n 0, 1) := by decide +kernel
theorem dX11_loses_4 : decode cX11_loses 4 = .ok (.getfield 9, 3) := by decide +kernel
theorem dX11_loses_7 : decode cX11_loses 7 = .ok (.iconst 2, 1) := by decide +kernel
theorem dX11_loses_8 : decode cX11_loses 8 = .ok (.iaload, 1) := by decide +kernel
theorem dX11_loses_9 : decode cX11_loses 9 = .ok (.if_icmp .ge 65, 3) := by decide +kernel
theorem dX11_loses_12 : decode cX11_loses 12 = .ok (.iload_n 1, 1) := by decide +kernel
theorem dX11_loses_13 : decode cX11_loses 13 = .ok (.invokestatic 109, 3) := by decide +kernel
theorem dX11_loses_16 : decode cX11_loses 16 = .ok (.istore_n 2, 1) := by decide +kernel
theorem dX11_loses_17 : decode cX11_loses 17 = .ok (.aload_n 0, 1) := by decide +kernel
theorem dX11_loses_18 : decode cX11_loses 18 = .ok (.getfield 9, 3) := by decide +kernel
theorem dX11_loses_21 : decode cX11_loses 21 = .ok (.iload_n 2, 1) := by decide +kernel
theorem dX11_loses_22 : decode cX11_loses 22 = .ok (.iconst 3, 1) := by decide +kernel
theorem dX11_loses_23 : decode cX11_loses 23 = .ok (.iadd, 1) := by decide +kernel
theorem dX11_loses_24 : decode cX11_loses 24 = .ok (.iaload, 1) := by decide +kernel
theorem dX11_loses_25 : decode cX11_loses 25 = .ok (.ifCond .ne 43, 3) := by decide +kernel
theorem dX11_loses_28 : decode cX11_loses 28 = .ok (.aload_n 0, 1) := by decide +kernel
theorem dX11_loses_29 : decode cX11_loses 29 = .ok (.aload_n 0, 1) := by decide +kernel
theorem dX11_loses_30 : decode cX11_loses 30 = .ok (.getfield 9, 3) := by decide +kernel
theorem dX11_loses_33 : decode cX11_loses 33 = .ok (.iload_n 2, 1) := by decide +kernel
theorem dX11_loses_34 : decode cX11_loses 34 = .ok (.iconst 4, 1) := by decide +kernel
theorem dX11_loses_35 : decode cX11_loses 35 = .ok (.iadd, 1) := by decide +kernel
theorem dX11_loses_36 : decode cX11_loses 36 = .ok (.iaload, 1) := by decide +kernel
theorem dX11_loses_37 : decode cX11_loses 37 = .ok (.aload_n 0, 1) := by decide +kernel
theorem dX11_loses_38 : decode cX11_loses 38 = .ok (.getfield 9, 3) := by decide +kernel
theorem dX11_loses_41 : decode cX11_loses 41 = .ok (.iload_n 2, 1) := by decide +kernel
theorem dX11_loses_42 : decode cX11_loses 42 = .ok (.iconst 1, 1) := by decide +kernel
theorem dX11_loses_43 : decode cX11_loses 43 = .ok (.iadd, 1) := by decide +kernel
theorem dX11_loses_44 : decode cX11_loses 44 = .ok (.iaload, 1) := by decide +kernel
theorem dX11_loses_45 : decode cX11_loses 45 = .ok (.invokevirtual 106, 3) := by decide +kernel
theorem dX11_loses_48 : decode cX11_loses 48 = .ok (.iconst (-1), 1) := by decide +kernel
theorem dX11_loses_49 : decode cX11_loses 49 = .ok (.if_icmp .ne 19, 3) := by decide +kernel
theorem dX11_loses_52 : decode cX11_loses 52 = .ok (.aload_n 0, 1) := by decide +kernel
theorem dX11_loses_53 : decode cX11_loses 53 = .ok (.getfield 9, 3) := by decide +kernel
theorem dX11_loses_56 : decode cX11_loses 56 = .ok (.iload_n 2, 1) := by decide +kernel
theorem dX11_loses_57 : decode cX11_loses 57 = .ok (.iconst 3, 1) := by decide +kernel
theorem dX11_loses_58 : decode cX11_loses 58 = .ok (.iadd, 1) := by decide +kernel
theorem dX11_loses_59 : decode cX11_loses 59 = .ok (.iconst 3, 1) := by decide +kernel
theorem dX11_loses_60 : decode cX11_loses 60 = .ok (.iastore, 1) := by decide +kernel
theorem dX11_loses_61 : decode cX11_loses 61 = .ok (.aload_n 0, 1) := by decide +kernel
theorem dX11_loses_62 : decode cX11_loses 62 = .ok (.bipush 8, 2) := by decide +kernel
theorem dX11_loses_64 : decode cX11_loses 64 = .ok (.iconst 1, 1) := by decide +kernel
theorem dX11_loses_65 : decode cX11_loses 65 = .ok (.invokevirtual 126, 3) := by decide +kernel
theorem dX11_loses_68 : decode cX11_loses 68 = .ok (.iinc 1 1, 3) := by decide +kernel
theorem dX11_loses_71 : decode cX11_loses 71 = .ok (.goto (-69), 3) := by decide +kernel
theorem dX11_loses_74 : decode cX11_loses 74 = .ok (.return_, 1) := by decide +kernel
theorem dX11_ticks_0 : decode cX11_ticks 0 = .ok (.aload_n 0, 1) := by decide +kernel
theorem dX11_ticks_1 : decode cX11_ticks 1 = .ok (.getfield 9, 3) := by decide +kernel
theorem dX11_ticks_4 : decode cX11_ticks 4 = .ok (.iconst 3, 1) := by decide +kernel
theorem dX11_ticks_5 : decode cX11_ticks 5 = .ok (.dup2, 1) := by decide +kernel
theorem dX11_ticks_6 : decode cX11_ticks 6 = .ok (.iaload, 1) := by decide +kernel
theorem dX11_ticks_7 : decode cX11_ticks 7 = .ok (.iconst 1, 1) := by decide +kernel
theorem dX11_ticks_8 : decode cX11_ticks 8 = .ok (.iadd, 1) := by decide +kernel
theorem dX11_ticks_9 : decode cX11_ticks 9 = .ok (.iastore, 1) := by decide +kernel
theorem dX11_ticks_10 : decode cX11_ticks 10 = .ok (.aload_n 0, 1) := by decide +kernel
theorem dX11_ticks_11 : decode cX11_ticks 11 = .ok (.iconst 0, 1) := by decide +kernel
theorem dX11_ticks_12 : decode cX11_ticks 12 = .ok (.iconst 1, 1) := by decide +kernel
theorem dX11_ticks_13 : decode cX11_ticks 13 = .ok (.invokevirtual 126, 3) := by decide +kernel
theorem dX11_ticks_16 : decode cX11_ticks 16 = .ok (.aload_n 0, 1) := by decide +kernel
theorem dX11_ticks_17 : decode cX11_ticks 17 = .ok (.invokevirtual 175, 3) := by decide +kernel
theorem dX11_ticks_20 : decode cX11_ticks 20 = .ok (.iconst 0, 1) := by decide +kernel
theorem dX11_ticks_21 : decode cX11_ticks 21 = .ok (.istore_n 1, 1) := by decide +kernel
theorem dX11_ticks_22 : decode cX11_ticks 22 = .ok (.iload_n 1, 1) := by decide +kernel
theorem dX11_ticks_23 : decode cX11_ticks 23 = .ok (.aload_n 0, 1) := by decide +kernel
theorem dX11_ticks_24 : decode cX11_ticks 24 = .ok (.getfield 9, 3) := by decide +kernel
theorem dX11_ticks_27 : decode cX11_ticks 27 = .ok (.iconst 0, 1) := by decide +kernel
theorem dX11_ticks_28 : decode cX11_ticks 28 = .ok (.iaload, 1) := by decide +kernel
theorem dX11_ticks_29 : decode cX11_ticks 29 = .ok (.if_icmp .ge 62, 3) := by decide +kernel
theorem dX11_ticks_32 : decode cX11_ticks 32 = .ok (.aload_n 0, 1) := by decide +kernel
theorem dX11_ticks_33 : decode cX11_ticks 33 = .ok (.getfield 9, 3) := by decide +kernel
theorem dX11_ticks_36 : decode cX11_ticks 36 = .ok (.iconst 3, 1) := by decide +kernel
theorem dX11_ticks_37 : decode cX11_ticks 37 = .ok (.iaload, 1) := by decide +kernel
theorem dX11_ticks_38 : decode cX11_ticks 38 = .ok (.bipush 60, 2) := by decide +kernel
theorem dX11_ticks_40 : decode cX11_ticks 40 = .ok (.irem, 1) := by decide +kernel
theorem dX11_ticks_41 : decode cX11_ticks 41 = .ok (.aload_n 0, 1) := by decide +kernel
theorem dX11_ticks_42 : decode cX11_ticks 42 = .ok (.getfield 9, 3) := by decide +kernel
theorem dX11_ticks_45 : decode cX11_ticks 45 = .ok (.iconst 5, 1) := by decide +kernel
theorem dX11_ticks_46 : decode cX11_ticks 46 = .ok (.iaload, 1) := by decide +kernel
theorem dX11_ticks_47 : decode cX11_ticks 47 = .ok (.if_icmp .ge 44, 3) := by decide +kernel
theorem dX11_ticks_50 : decode cX11_ticks 50 = .ok (.aload_n 0, 1) := by decide +kernel
theorem dX11_ticks_51 : decode cX11_ticks 51 = .ok (.iload_n 1, 1) := by decide +kernel
theorem dX11_ticks_52 : decode cX11_ticks 52 = .ok (.aload_n 0, 1) := by decide +kernel
theorem dX11_ticks_53 : decode cX11_ticks 53 = .ok (.getfield 9, 3) := by decide +kernel
theorem dX11_ticks_56 : decode cX11_ticks 56 = .ok (.iconst 3, 1) := by decide +kernel
theorem dX11_ticks_57 : decode cX11_ticks 57 = .ok (.iaload, 1) := by decide +kernel
theorem dX11_ticks_58 : decode cX11_ticks 58 = .ok (.invokevirtual 178, 3) := by decide +kernel
theorem dX11_ticks_61 : decode cX11_ticks 61 = .ok (.ifCond .eq 7, 3) := by decide +kernel
theorem dX11_ticks_64 : decode cX11_ticks 64 = .ok (.iconst (-1), 1) := by decide +kernel
theorem dX11_ticks_65 : decode cX11_ticks 65 = .ok (.goto 8, 3) := by decide +kernel
theorem dX11_ticks_68 : decode cX11_ticks 68 = .ok (.aload_n 0, 1) := by decide +kernel
theorem dX11_ticks_69 : decode cX11_ticks 69 = .ok (.iload_n 1, 1) := by decide +kernel
theorem dX11_ticks_70 : decode cX11_ticks 70 = .ok (.invokevirtual 181, 3) := by decide +kernel
theorem dX11_ticks_73 : decode cX11_ticks 73 = .ok (.istore_n 2, 1) := by decide +kernel
theorem dX11_ticks_74 : decode cX11_ticks 74 = .ok (.iload_n 2, 1) := by decide +kernel
theorem dX11_ticks_75 : decode cX11_ticks 75 = .ok (.iconst (-1), 1) := by decide +kernel
theorem dX11_ticks_76 : decode cX11_ticks 76 = .ok (.if_icmp .eq 9, 3) := by decide +kernel
theorem dX11_ticks_79 : decode cX11_ticks 79 = .ok (.aload_n 0, 1) := by decide +kernel
theorem dX11_ticks_80 : decode cX11_ticks 80 = .ok (.iload_n 2, 1) := by decide +kernel
theorem dX11_ticks_81 : decode cX11_ticks 81 = .ok (.iload_n 1, 1) := by decide +kernel
theorem dX11_ticks_82 : decode cX11_ticks 82 = .ok (.invokevirtual 184, 3) := by decide +kernel
theorem dX11_ticks_85 : decode cX11_ticks 85 = .ok (.iinc 1 1, 3) := by decide +kernel
theorem dX11_ticks_88 : decode cX11_ticks 88 = .ok (.goto (-66), 3) := by decide +kernel
theorem dX11_ticks_91 : decode cX11_ticks 91 = .ok (.aload_n 0, 1) := by decide +kernel
theorem dX11_ticks_92 : decode cX11_ticks 92 = .ok (.invokevirtual 187, 3) := by decide +kernel
theorem dX11_ticks_95 : decode cX11_ticks 95 = .ok (.return_, 1) := by decide +kernel
theorem dX11_goes_0 : decode cX11_goes 0 = .ok (.aload_n 0, 1) := by decide +kernel
theorem dX11_goes_1 : decode cX11_goes 1 = .ok (.getfield 9, 3) := by decide +kernel
theorem dX11_goes_4 : decode cX11_goes 4 = .ok (.bipush 15, 2) := by decide +kernel
theorem dX11_goes_6 : decode cX11_goes 6 = .ok (.iaload, 1) := by decide +kernel
theorem dX11_goes_7 : decode cX11_goes 7 = .ok (.istore_n 2, 1) := by decide +kernel
theorem dX11_goes_8 : decode cX11_goes 8 = .ok (.iconst 0, 1) := by decide +kernel
theorem dX11_goes_9 : decode cX11_goes 9 = .ok (.istore_n 3, 1) := by decide +kernel
theorem dX11_goes_10 : decode cX11_goes 10 = .ok (.iload_n 3, 1) := by decide +kernel
theorem dX11_goes_11 : decode cX11_goes 11 = .ok (.iload_n 1, 1) := by decide +kernel
theorem dX11_goes_12 : decode cX11_goes 12 = .ok (.if_icmp .ge 13, 3) := by decide +kernel
theorem dX11_goes_15 : decode cX11_goes 15 = .ok (.aload_n 0, 1) := by decide +kernel
theorem dX11_goes_16 : decode cX11_goes 16 = .ok (.invokevirtual 190, 3) := by decide +kernel
theorem dX11_goes_19 : decode cX11_goes 19 = .ok (.iinc 3 1, 3) := by decide +kernel
theorem dX11_goes_22 : decode cX11_goes 22 = .ok (.goto (-12), 3) := by decide +kernel
theorem dX11_goes_25 : decode cX11_goes 25 = .ok (.aload_n 0, 1) := by decide +kernel
theorem dX11_goes_26 : decode cX11_goes 26 = .ok (.getfield 9, 3) := by decide +kernel
theorem dX11_goes_29 : decode cX11_goes 29 = .ok (.bipush 15, 2) := by decide +kernel
theorem dX11_goes_31 : decode cX11_goes 31 = .ok (.iaload, 1) := by decide +kernel
theorem dX11_goes_32 : decode cX11_goes 32 = .ok (.iload_n 2, 1) := by decide +kernel
theorem dX11_goes_33 : decode cX11_goes 33 = .ok (.isub, 1) := by decide +kernel
theorem dX11_goes_34 : decode cX11_goes 34 = .ok (.ireturn, 1) := by decide +kernel
theorem dX11_givesCoins_0 : decode cX11_givesCoins 0 = .ok (.aload_n 0, 1) := by decide +kernel
theorem dX11_givesCoins_1 : decode cX11_givesCoins 1 = .ok (.getfield 9, 3) := by decide +kernel
theorem dX11_givesCoins_4 : decode cX11_givesCoins 4 = .ok (.iload_n 1, 1) := by decide +kernel
theorem dX11_givesCoins_5 : decode cX11_givesCoins 5 = .ok (.invokestatic 84, 3) := by decide +kernel
theorem dX11_givesCoins_8 : decode cX11_givesCoins 8 = .ok (.bipush 10, 2) := by decide +kernel
theorem dX11_givesCoins_10 : decode cX11_givesCoins 10 = .ok (.iadd, 1) := by decide +kernel
theorem dX11_givesCoins_11 : decode cX11_givesCoins 11 = .ok (.dup2, 1) := by decide +kernel
theorem dX11_givesCoins_12 : decode cX11_givesCoins 12 = .ok (.iaload, 1) := by decide +kernel
theorem dX11_givesCoins_13 : decode cX11_givesCoins 13 = .ok (.iload_n 2, 1) := by decide +kernel
theorem dX11_givesCoins_14 : decode cX11_givesCoins 14 = .ok (.iadd, 1) := by decide +kernel
theorem dX11_givesCoins_15 : decode cX11_givesCoins 15 = .ok (.iastore, 1) := by decide +kernel
theorem dX11_givesCoins_16 : decode cX11_givesCoins 16 = .ok (.aload_n 0, 1) := by decide +kernel
theorem dX11_givesCoins_17 : decode cX11_givesCoins 17 = .ok (.bipush 10, 2) := by decide +kernel
theorem dX11_givesCoins_19 : decode cX11_givesCoins 19 = .ok (.iload_n 2, 1) := by decide +kernel
theorem dX11_givesCoins_20 : decode cX11_givesCoins 20 = .ok (.invokevirtual 126, 3) := by decide +kernel
theorem dX11_givesCoins_23 : decode cX11_givesCoins 23 = .ok (.aload_n 0, 1) := by decide +kernel
theorem dX11_givesCoins_24 : decode cX11_givesCoins 24 = .ok (.getfield 9, 3) := by decide +kernel
theorem dX11_givesCoins_27 : decode cX11_givesCoins 27 = .ok (.iload_n 1, 1) := by decide +kernel
theorem dX11_givesCoins_28 : decode cX11_givesCoins 28 = .ok (.invokestatic 84, 3) := by decide +kernel
theorem dX11_givesCoins_31 : decode cX11_givesCoins 31 = .ok (.bipush 10, 2) := by decide +kernel
theorem dX11_givesCoins_33 : decode cX11_givesCoins 33 = .ok (.iadd, 1) := by decide +kernel
theorem dX11_givesCoins_34 : decode cX11_givesCoins 34 = .ok (.iaload, 1) := by decide +kernel
theorem dX11_givesCoins_35 : decode cX11_givesCoins 35 = .ok (.ireturn, 1) := by decide +kernel
theorem dX11_cuts_0 : decode cX11_cuts 0 = .ok (.iload_n 1, 1) := by decide +kernel
theorem dX11_cuts_1 : decode cX11_cuts 1 = .ok (.invokestatic 88, 3) := by decide +kernel
theorem dX11_cuts_4 : decode cX11_cuts 4 = .ok (.istore_n 2, 1) := by decide +kernel
theorem dX11_cuts_5 : decode cX11_cuts 5 = .ok (.iload_n 2, 1) := by decide +kernel
theorem dX11_cuts_6 : decode cX11_cuts 6 = .ok (.aload_n 0, 1) := by decide +kernel
theorem dX11_cuts_7 : decode cX11_cuts 7 = .ok (.getfield 9, 3) := by decide +kernel
theorem dX11_cuts_10 : decode cX11_cuts 10 = .ok (.iconst 1, 1) := by decide +kernel
theorem dX11_cuts_11 : decode cX11_cuts 11 = .ok (.iaload, 1) := by decide +kernel
theorem dX11_cuts_12 : decode cX11_cuts 12 = .ok (.iconst 1, 1) := by decide +kernel
theorem dX11_cuts_13 : decode cX11_cuts 13 = .ok (.isub, 1) := by decide +kernel
theorem dX11_cuts_14 : decode cX11_cuts 14 = .ok (.invokestatic 88, 3) := by decide +kernel
theorem dX11_cuts_17 : decode cX11_cuts 17 = .ok (.if_icmp .ge 23, 3) := by decide +kernel
theorem dX11_cuts_20 : decode cX11_cuts 20 = .ok (.aload_n 0, 1) := by decide +kernel
theorem dX11_cuts_21 : decode cX11_cuts 21 = .ok (.getfield 9, 3) := by decide +kernel
theorem dX11_cuts_24 : decode cX11_cuts 24 = .ok (.iload_n 2, 1) := by decide +kernel
theorem dX11_cuts_25 : decode cX11_cuts 25 = .ok (.aload_n 0, 1) := by decide +kernel
theorem dX11_cuts_26 : decode cX11_cuts 26 = .ok (.getfield 9, 3) := by decide +kernel
theorem dX11_cuts_29 : decode cX11_cuts 29 = .ok (.iload_n 2, 1) := by decide +kernel
theorem dX11_cuts_30 : decode cX11_cuts 30 = .ok (.iconst 3, 1) := by decide +kernel
theorem dX11_cuts_31 : decode cX11_cuts 31 = .ok (.iadd, 1) := by decide +kernel
theorem dX11_cuts_32 : decode cX11_cuts 32 = .ok (.iaload, 1) := by decide +kernel
theorem dX11_cuts_33 : decode cX11_cuts 33 = .ok (.iastore, 1) := by decide +kernel
theorem dX11_cuts_34 : decode cX11_cuts 34 = .ok (.iinc 2 1, 3) := by decide +kernel
theorem dX11_cuts_37 : decode cX11_cuts 37 = .ok (.goto (-32), 3) := by decide +kernel
theorem dX11_cuts_40 : decode cX11_cuts 40 = .ok (.aload_n 0, 1) := by decide +kernel
theorem dX11_cuts_41 : decode cX11_cuts 41 = .ok (.getfield 9, 3) := by decide +kernel
theorem dX11_cuts_44 : decode cX11_cuts 44 = .ok (.iconst 1, 1) := by decide +kernel
theorem dX11_cuts_45 : decode cX11_cuts 45 = .ok (.dup2, 1) := by decide +kernel
theorem dX11_cuts_46 : decode cX11_cuts 46 = .ok (.iaload, 1) := by decide +kernel
theorem dX11_cuts_47 : decode cX11_cuts 47 = .ok (.iconst 1, 1) := by decide +kernel
theorem dX11_cuts_48 : decode cX11_cuts 48 = .ok (.isub, 1) := by decide +kernel
theorem dX11_cuts_49 : decode cX11_cuts 49 = .ok (.iastore, 1) := by decide +kernel
theorem dX11_cuts_50 : decode cX11_cuts 50 = .ok (.aload_n 0, 1) := by decide +kernel
theorem dX11_cuts_51 : decode cX11_cuts 51 = .ok (.getfield 9, 3) := by decide +kernel
theorem dX11_cuts_54 : decode cX11_cuts 54 = .ok (.iconst 1, 1) := by decide +kernel
theorem dX11_cuts_55 : decode cX11_cuts 55 = .ok (.iaload, 1) := by decide +kernel
theorem dX11_cuts_56 : decode cX11_cuts 56 = .ok (.ireturn, 1) := by decide +kernel
theorem dX11_lowOf_0 : decode cX11_lowOf 0 = .ok (.iload_n 0, 1) := by decide +kernel
theorem dX11_lowOf_1 : decode cX11_lowOf 1 = .ok (.iconst 5, 1) := by decide +kernel
theorem dX11_lowOf_2 : decode cX11_lowOf 2 = .ok (.if_icmp .ne 7, 3) := by decide +kernel
theorem dX11_lowOf_5 : decode cX11_lowOf 5 = .ok (.iconst 1, 1) := by decide +kernel
theorem dX11_lowOf_6 : decode cX11_lowOf 6 = .ok (.goto 4, 3) := by decide +kernel
theorem dX11_lowOf_9 : decode cX11_lowOf 9 = .ok (.iconst 0, 1) := by decide +kernel
theorem dX11_lowOf_10 : decode cX11_lowOf 10 = .ok (.ireturn, 1) := by decide +kernel
theorem dX11_highOf_0 : decode cX11_highOf 0 = .ok (.iload_n 0, 1) := by decide +kernel
theorem dX11_highOf_1 : decode cX11_highOf 1 = .ok (.iconst 5, 1) := by decide +kernel
theorem dX11_highOf_2 : decode cX11_highOf 2 = .ok (.if_icmp .ne 8, 3) := by decide +kernel
theorem dX11_highOf_5 : decode cX11_highOf 5 = .ok (.bipush 60, 2) := by decide +kernel
theorem dX11_highOf_7 : decode cX11_highOf 7 = .ok (.goto 14, 3) := by decide +kernel
theorem dX11_highOf_10 : decode cX11_highOf 10 = .ok (.iload_n 0, 1) := by decide +kernel
theorem dX11_highOf_11 : decode cX11_highOf 11 = .ok (.iconst 4, 1) := by decide +kernel
theorem dX11_highOf_12 : decode cX11_highOf 12 = .ok (.if_icmp .ne 8, 3) := by decide +kernel
theorem dX11_highOf_15 : decode cX11_highOf 15 = .ok (.bipush 9, 2) := by decide +kernel
theorem dX11_highOf_17 : decode cX11_highOf 17 = .ok (.goto 4, 3) := by decide +kernel
theorem dX11_highOf_20 : decode cX11_highOf 20 = .ok (.iconst 3, 1) := by decide +kernel
theorem dX11_highOf_21 : decode cX11_highOf 21 = .ok (.ireturn, 1) := by decide +kernel
theorem dX11_sets_0 : decode cX11_sets 0 = .ok (.aload_n 0, 1) := by decide +kernel
theorem dX11_sets_1 : decode cX11_sets 1 = .ok (.getfield 9, 3) := by decide +kernel
theorem dX11_sets_4 : decode cX11_sets 4 = .ok (.iload_n 1, 1) := by decide +kernel
theorem dX11_sets_5 : decode cX11_sets 5 = .ok (.iaload, 1) := by decide +kernel
theorem dX11_sets_6 : decode cX11_sets 6 = .ok (.istore_n 3, 1) := by decide +kernel
theorem dX11_sets_7 : decode cX11_sets 7 = .ok (.aload_n 0, 1) := by decide +kernel
theorem dX11_sets_8 : decode cX11_sets 8 = .ok (.getfield 9, 3) := by decide +kernel
theorem dX11_sets_11 : decode cX11_sets 11 = .ok (.iload_n 1, 1) := by decide +kernel
theorem dX11_sets_12 : decode cX11_sets 12 = .ok (.iload_n 2, 1) := by decide +kernel
theorem dX11_sets_13 : decode cX11_sets 13 = .ok (.iastore, 1) := by decide +kernel
theorem dX11_sets_14 : decode cX11_sets 14 = .ok (.iload_n 3, 1) := by decide +kernel
theorem dX11_sets_15 : decode cX11_sets 15 = .ok (.ireturn, 1) := by decide +kernel
theorem dX11_four_0 : decode cX11_four 0 = .ok (.iconst 3, 1) := by decide +kernel
theorem dX11_four_1 : decode cX11_four 1 = .ok (.istore_n 2, 1) := by decide +kernel
theorem dX11_four_2 : decode cX11_four 2 = .ok (.iload_n 2, 1) := by decide +kernel
theorem dX11_four_3 : decode cX11_four 3 = .ok (.ifCond .lt 35, 3) := by decide +kernel
theorem dX11_four_6 : decode cX11_four 6 = .ok (.aload_n 0, 1) := by decide +kernel
theorem dX11_four_7 : decode cX11_four 7 = .ok (.getfield 31, 3) := by decide +kernel
theorem dX11_four_10 : decode cX11_four 10 = .ok (.aload_n 0, 1) := by decide +kernel
theorem dX11_four_11 : decode cX11_four 11 = .ok (.getfield 193, 3) := by decide +kernel
theorem dX11_four_14 : decode cX11_four 14 = .ok (.iload_n 1, 1) := by decide +kernel
theorem dX11_four_15 : decode cX11_four 15 = .ok (.bipush 8, 2) := by decide +kernel
theorem dX11_four_17 : decode cX11_four 17 = .ok (.iload_n 2, 1) := by decide +kernel
theorem dX11_four_18 : decode cX11_four 18 = .ok (.imul, 1) := by decide +kernel
theorem dX11_four_19 : decode cX11_four 19 = .ok (.ishr, 1) := by decide +kernel
theorem dX11_four_20 : decode cX11_four 20 = .ok (.i2b, 1) := by decide +kernel
theorem dX11_four_21 : decode cX11_four 21 = .ok (.bastore, 1) := by decide +kernel
theorem dX11_four_22 : decode cX11_four 22 = .ok (.aload_n 0, 1) := by decide +kernel
theorem dX11_four_23 : decode cX11_four 23 = .ok (.dup, 1) := by decide +kernel
theorem dX11_four_24 : decode cX11_four 24 = .ok (.getfield 193, 3) := by decide +kernel
theorem dX11_four_27 : decode cX11_four 27 = .ok (.iconst 1, 1) := by decide +kernel
theorem dX11_four_28 : decode cX11_four 28 = .ok (.iadd, 1) := by decide +kernel
theorem dX11_four_29 : decode cX11_four 29 = .ok (.putfield 193, 3) := by decide +kernel
theorem dX11_four_32 : decode cX11_four 32 = .ok (.iinc 2 (-1), 3) := by decide +kernel
theorem dX11_four_35 : decode cX11_four 35 = .ok (.goto (-33), 3) := by decide +kernel
theorem dX11_four_38 : decode cX11_four 38 = .ok (.return_, 1) := by decide +kernel
theorem dX11_appendInput_0 : decode cX11_appendInput 0 = .ok (.aload_n 0, 1) := by decide +kernel
theorem dX11_appendInput_1 : decode cX11_appendInput 1 = .ok (.iconst 0, 1) := by decide +kernel
theorem dX11_appendInput_2 : decode cX11_appendInput 2 = .ok (.putfield 78, 3) := by decide +kernel
theorem dX11_appendInput_5 : decode cX11_appendInput 5 = .ok (.aload_n 0, 1) := by decide +kernel
theorem dX11_appendInput_6 : decode cX11_appendInput 6 = .ok (.getfield 193, 3) := by decide +kernel
theorem dX11_appendInput_9 : decode cX11_appendInput 9 = .ok (.sipush 780, 3) := by decide +kernel
theorem dX11_appendInput_12 : decode cX11_appendInput 12 = .ok (.if_icmp .le 5, 3) := by decide +kernel
theorem dX11_appendInput_15 : decode cX11_appendInput 15 = .ok (.iconst (-1), 1) := by decide +kernel
theorem dX11_appendInput_16 : decode cX11_appendInput 16 = .ok (.ireturn, 1) := by decide +kernel
theorem dX11_appendInput_17 : decode cX11_appendInput 17 = .ok (.aload_n 0, 1) := by decide +kernel
theorem dX11_appendInput_18 : decode cX11_appendInput 18 = .ok (.iload_n 1, 1) := by decide +kernel
theorem dX11_appendInput_19 : decode cX11_appendInput 19 = .ok (.invokevirtual 196, 3) := by decide +kernel
theorem dX11_appendInput_22 : decode cX11_appendInput 22 = .ok (.aload_n 0, 1) := by decide +kernel
theorem dX11_appendInput_23 : decode cX11_appendInput 23 = .ok (.iload_n 2, 1) := by decide +kernel
theorem dX11_appendInput_24 : decode cX11_appendInput 24 = .ok (.invokevirtual 196, 3) := by decide +kernel
theorem dX11_appendInput_27 : decode cX11_appendInput 27 = .ok (.aload_n 0, 1) := by decide +kernel
theorem dX11_appendInput_28 : decode cX11_appendInput 28 = .ok (.iload_n 3, 1) := by decide +kernel
theorem dX11_appendInput_29 : decode cX11_appendInput 29 = .ok (.invokevirtual 196, 3) := by decide +kernel
theorem dX11_appendInput_32 : decode cX11_appendInput 32 = .ok (.aload_n 0, 1) := by decide +kernel
theorem dX11_appendInput_33 : decode cX11_appendInput 33 = .ok (.iload 4, 2) := by decide +kernel
theorem dX11_appendInput_35 : decode cX11_appendInput 35 = .ok (.invokevirtual 196, 3) := by decide +kernel
theorem dX11_appendInput_38 : decode cX11_appendInput 38 = .ok (.aload_n 0, 1) := by decide +kernel
theorem dX11_appendInput_39 : decode cX11_appendInput 39 = .ok (.iload 5, 2) := by decide +kernel
theorem dX11_appendInput_41 : decode cX11_appendInput 41 = .ok (.invokevirtual 196, 3) := by decide +kernel
theorem dX11_appendInput_44 : decode cX11_appendInput 44 = .ok (.aload_n 0, 1) := by decide +kernel
theorem dX11_appendInput_45 : decode cX11_appendInput 45 = .ok (.getfield 193, 3) := by decide +kernel
theorem dX11_appendInput_48 : decode cX11_appendInput 48 = .ok (.ireturn, 1) := by decide +kernel
theorem dX11_truncateInput_0 : decode cX11_truncateInput 0 = .ok (.aload_n 0, 1) := by decide +kernel
theorem dX11_truncateInput_1 : decode cX11_truncateInput 1 = .ok (.iconst 0, 1) := by decide +kernel
theorem dX11_truncateInput_2 : decode cX11_truncateInput 2 = .ok (.putfield 78, 3) := by decide +kernel
theorem dX11_truncateInput_5 : decode cX11_truncateInput 5 = .ok (.iload_n 1, 1) := by decide +kernel
theorem dX11_truncateInput_6 : decode cX11_truncateInput 6 = .ok (.i2l, 1) := by decide +kernel
theorem dX11_truncateInput_7 : decode cX11_truncateInput 7 = .ok (.lconst 0, 1) := by decide +kernel
theorem dX11_truncateInput_8 : decode cX11_truncateInput 8 = .ok (.aload_n 0, 1) := by decide +kernel
theorem dX11_truncateInput_9 : decode cX11_truncateInput 9 = .ok (.getfield 193, 3) := by decide +kernel
theorem dX11_truncateInput_12 : decode cX11_truncateInput 12 = .ok (.i2l, 1) := by decide +kernel
theorem dX11_truncateInput_13 : decode cX11_truncateInput 13 = .ok (.invokestatic 199, 3) := by decide +kernel
theorem dX11_truncateInput_16 : decode cX11_truncateInput 16 = .ok (.ifCond .ne 5, 3) := by decide +kernel
theorem dX11_truncateInput_19 : decode cX11_truncateInput 19 = .ok (.iconst 0, 1) := by decide +kernel
theorem dX11_truncateInput_20 : decode cX11_truncateInput 20 = .ok (.ireturn, 1) := by decide +kernel
theorem dX11_truncateInput_21 : decode cX11_truncateInput 21 = .ok (.aload_n 0, 1) := by decide +kernel
theorem dX11_truncateInput_22 : decode cX11_truncateInput 22 = .ok (.iload_n 1, 1) := by decide +kernel
theorem dX11_truncateInput_23 : decode cX11_truncateInput 23 = .ok (.putfield 193, 3) := by decide +kernel
theorem dX11_truncateInput_26 : decode cX11_truncateInput 26 = .ok (.iconst 1, 1) := by decide +kernel
theorem dX11_truncateInput_27 : decode cX11_truncateInput 27 = .ok (.ireturn, 1) := by decide +kernel
theorem dX11_errorCode_0 : decode cX11_errorCode 0 = .ok (.aload_n 0, 1) := by decide +kernel
theorem dX11_errorCode_1 : decode cX11_errorCode 1 = .ok (.iconst 0, 1) := by decide +kernel
theorem dX11_errorCode_2 : decode cX11_errorCode 2 = .ok (.putfield 78, 3) := by decide +kernel
theorem dX11_errorCode_5 : decode cX11_errorCode 5 = .ok (.aload_n 0, 1) := by decide +kernel
theorem dX11_errorCode_6 : decode cX11_errorCode 6 = .ok (.getfield 203, 3) := by decide +kernel
theorem dX11_errorCode_9 : decode cX11_errorCode 9 = .ok (.ireturn, 1) := by decide +kernel
theorem dX11_errorOffset_0 : decode cX11_errorOffset 0 = .ok (.aload_n 0, 1) := by decide +kernel
theorem dX11_errorOffset_1 : decode cX11_errorOffset 1 = .ok (.iconst 0, 1) := by decide +kernel
theorem dX11_errorOffset_2 : decode cX11_errorOffset 2 = .ok (.putfield 78, 3) := by decide +kernel
theorem dX11_errorOffset_5 : decode cX11_errorOffset 5 = .ok (.aload_n 0, 1) := by decide +kernel
theorem dX11_errorOffset_6 : decode cX11_errorOffset 6 = .ok (.getfield 35, 3) := by decide +kernel
theorem dX11_errorOffset_9 : decode cX11_errorOffset 9 = .ok (.ireturn, 1) := by decide +kernel
theorem dX11_isLetter_0 : decode cX11_isLetter 0 = .ok (.iload_n 1, 1) := by decide +kernel
theorem dX11_isLetter_1 : decode cX11_isLetter 1 = .ok (.aload_n 0, 1) := by decide +kernel
theorem dX11_isLetter_2 : decode cX11_isLetter 2 = .ok (.getfield 193, 3) := by decide +kernel
theorem dX11_isLetter_5 : decode cX11_isLetter 5 = .ok (.if_icmp .ge 26, 3) := by decide +kernel
theorem dX11_isLetter_8 : decode cX11_isLetter 8 = .ok (.aload_n 0, 1) := by decide +kernel
theorem dX11_isLetter_9 : decode cX11_isLetter 9 = .ok (.getfield 31, 3) := by decide +kernel
theorem dX11_isLetter_12 : decode cX11_isLetter 12 = .ok (.iload_n 1, 1) := by decide +kernel
theorem dX11_isLetter_13 : decode cX11_isLetter 13 = .ok (.baload, 1) := by decide +kernel
theorem dX11_isLetter_14 : decode cX11_isLetter 14 = .ok (.i2l, 1) := by decide +kernel
theorem dX11_isLetter_15 : decode cX11_isLetter 15 = .ok (.ldc2_w 206, 3) := by decide +kernel
theorem dX11_isLetter_18 : decode cX11_isLetter 18 = .ok (.ldc2_w 208, 3) := by decide +kernel
theorem dX11_isLetter_21 : decode cX11_isLetter 21 = .ok (.invokestatic 199, 3) := by decide +kernel
theorem dX11_isLetter_24 : decode cX11_isLetter 24 = .ok (.ifCond .eq 7, 3) := by decide +kernel
theorem dX11_isLetter_27 : decode cX11_isLetter 27 = .ok (.iconst 1, 1) := by decide +kernel
theorem dX11_isLetter_28 : decode cX11_isLetter 28 = .ok (.goto 4, 3) := by decide +kernel
theorem dX11_isLetter_31 : decode cX11_isLetter 31 = .ok (.iconst 0, 1) := by decide +kernel
theorem dX11_isLetter_32 : decode cX11_isLetter 32 = .ok (.ireturn, 1) := by decide +kernel
theorem dX11_isDigit_0 : decode cX11_isDigit 0 = .ok (.iload_n 1, 1) := by decide +kernel
theorem dX11_isDigit_1 : decode cX11_isDigit 1 = .ok (.aload_n 0, 1) := by decide +kernel
theorem dX11_isDigit_2 : decode cX11_isDigit 2 = .ok (.getfield 193, 3) := by decide +kernel
theorem dX11_isDigit_5 : decode cX11_isDigit 5 = .ok (.if_icmp .ge 26, 3) := by decide +kernel
theorem dX11_isDigit_8 : decode cX11_isDigit 8 = .ok (.aload_n 0, 1) := by decide +kernel
theorem dX11_isDigit_9 : decode cX11_isDigit 9 = .ok (.getfield 31, 3) := by decide +kernel
theorem dX11_isDigit_12 : decode cX11_isDigit 12 = .ok (.iload_n 1, 1) := by decide +kernel
theorem dX11_isDigit_13 : decode cX11_isDigit 13 = .ok (.baload, 1) := by decide +kernel
theorem dX11_isDigit_14 : decode cX11_isDigit 14 = .ok (.i2l, 1) := by decide +kernel
theorem dX11_isDigit_15 : decode cX11_isDigit 15 = .ok (.ldc2_w 210, 3) := by decide +kernel
theorem dX11_isDigit_18 : decode cX11_isDigit 18 = .ok (.ldc2_w 212, 3) := by decide +kernel
theorem dX11_isDigit_21 : decode cX11_isDigit 21 = .ok (.invokestatic 199, 3) := by decide +kernel
theorem dX11_isDigit_24 : decode cX11_isDigit 24 = .ok (.ifCond .eq 7, 3) := by decide +kernel
theorem dX11_isDigit_27 : decode cX11_isDigit 27 = .ok (.iconst 1, 1) := by decide +kernel
theorem dX11_isDigit_28 : decode cX11_isDigit 28 = .ok (.goto 4, 3) := by decide +kernel
theorem dX11_isDigit_31 : decode cX11_isDigit 31 = .ok (.iconst 0, 1) := by decide +kernel
theorem dX11_isDigit_32 : decode cX11_isDigit 32 = .ok (.ireturn, 1) := by decide +kernel
theorem dX11_goesOn_0 : decode cX11_goesOn 0 = .ok (.aload_n 0, 1) := by decide +kernel
theorem dX11_goesOn_1 : decode cX11_goesOn 1 = .ok (.getfield 214, 3) := by decide +kernel
theorem dX11_goesOn_4 : decode cX11_goesOn 4 = .ok (.ifCond .le 4, 3) := by decide +kernel
theorem dX11_goesOn_7 : decode cX11_goesOn 7 = .ok (.return_, 1) := by decide +kernel
theorem dX11_goesOn_8 : decode cX11_goesOn 8 = .ok (.aload_n 0, 1) := by decide +kernel
theorem dX11_goesOn_9 : decode cX11_goesOn 9 = .ok (.aload_n 0, 1) := by decide +kernel
theorem dX11_goesOn_10 : decode cX11_goesOn 10 = .ok (.getfield 217, 3) := by decide +kernel
theorem dX11_goesOn_13 : decode cX11_goesOn 13 = .ok (.putfield 220, 3) := by decide +kernel
theorem dX11_goesOn_16 : decode cX11_goesOn 16 = .ok (.aload_n 0, 1) := by decide +kernel
theorem dX11_goesOn_17 : decode cX11_goesOn 17 = .ok (.getfield 220, 3) := by decide +kernel
theorem dX11_goesOn_20 : decode cX11_goesOn 20 = .ok (.aload_n 0, 1) := by decide +kernel
theorem dX11_goesOn_21 : decode cX11_goesOn 21 = .ok (.getfield 193, 3) := by decide +kernel
theorem dX11_goesOn_24 : decode cX11_goesOn 24 = .ok (.if_icmp .ge 44, 3) := by decide +kernel
theorem dX11_goesOn_27 : decode cX11_goesOn 27 = .ok (.aload_n 0, 1) := by decide +kernel
theorem dX11_goesOn_28 : decode cX11_goesOn 28 = .ok (.getfield 31, 3) := by decide +kernel
theorem dX11_goesOn_31 : decode cX11_goesOn 31 = .ok (.aload_n 0, 1) := by decide +kernel
theorem dX11_goesOn_32 : decode cX11_goesOn 32 = .ok (.getfield 220, 3) := by decide +kernel
theorem dX11_goesOn_35 : decode cX11_goesOn 35 = .ok (.baload, 1) := by decide +kernel
theorem dX11_goesOn_36 : decode cX11_goesOn 36 = .ok (.bipush 32, 2) := by decide +kernel
theorem dX11_goesOn_38 : decode cX11_goesOn 38 = .ok (.if_icmp .eq 17, 3) := by decide +kernel
theorem dX11_goesOn_41 : decode cX11_goesOn 41 = .ok (.aload_n 0, 1) := by decide +kernel
theorem dX11_goesOn_42 : decode cX11_goesOn 42 = .ok (.getfield 31, 3) := by decide +kernel
theorem dX11_goesOn_45 : decode cX11_goesOn 45 = .ok (.aload_n 0, 1) := by decide +kernel
theorem dX11_goesOn_46 : decode cX11_goesOn 46 = .ok (.getfield 220, 3) := by decide +kernel
theorem dX11_goesOn_49 : decode cX11_goesOn 49 = .ok (.baload, 1) := by decide +kernel
theorem dX11_goesOn_50 : decode cX11_goesOn 50 = .ok (.bipush 10, 2) := by decide +kernel
theorem dX11_goesOn_52 : decode cX11_goesOn 52 = .ok (.if_icmp .ne 16, 3) := by decide +kernel
theorem dX11_goesOn_55 : decode cX11_goesOn 55 = .ok (.aload_n 0, 1) := by decide +kernel
theorem dX11_goesOn_56 : decode cX11_goesOn 56 = .ok (.dup, 1) := by decide +kernel
theorem dX11_goesOn_57 : decode cX11_goesOn 57 = .ok (.getfield 220, 3) := by decide +kernel
theorem dX11_goesOn_60 : decode cX11_goesOn 60 = .ok (.iconst 1, 1) := by decide +kernel
theorem dX11_goesOn_61 : decode cX11_goesOn 61 = .ok (.iadd, 1) := by decide +kernel
theorem dX11_goesOn_62 : decode cX11_goesOn 62 = .ok (.putfield 220, 3) := by decide +kernel
theorem dX11_goesOn_65 : decode cX11_goesOn 65 = .ok (.goto (-49), 3) := by decide +kernel
theorem dX11_goesOn_68 : decode cX11_goesOn 68 = .ok (.aload_n 0, 1) := by decide +kernel
theorem dX11_goesOn_69 : decode cX11_goesOn 69 = .ok (.aload_n 0, 1) := by decide +kernel
theorem dX11_goesOn_70 : decode cX11_goesOn 70 = .ok (.getfield 220, 3) := by decide +kernel
theorem dX11_goesOn_73 : decode cX11_goesOn 73 = .ok (.putfield 217, 3) := by decide +kernel
theorem dX11_goesOn_76 : decode cX11_goesOn 76 = .ok (.aload_n 0, 1) := by decide +kernel
theorem dX11_goesOn_77 : decode cX11_goesOn 77 = .ok (.getfield 220, 3) := by decide +kernel
theorem dX11_goesOn_80 : decode cX11_goesOn 80 = .ok (.aload_n 0, 1) := by decide +kernel
theorem dX11_goesOn_81 : decode cX11_goesOn 81 = .ok (.getfield 193, 3) := by decide +kernel
theorem dX11_goesOn_84 : decode cX11_goesOn 84 = .ok (.if_icmp .ne 11, 3) := by decide +kernel
theorem dX11_goesOn_87 : decode cX11_goesOn 87 = .ok (.aload_n 0, 1) := by decide +kernel
theorem dX11_goesOn_88 : decode cX11_goesOn 88 = .ok (.iconst 0, 1) := by decide +kernel
theorem dX11_goesOn_89 : decode cX11_goesOn 89 = .ok (.putfield 223, 3) := by decide +kernel
theorem dX11_goesOn_92 : decode cX11_goesOn 92 = .ok (.goto 206, 3) := by decide +kernel
theorem dX11_goesOn_95 : decode cX11_goesOn 95 = .ok (.aload_n 0, 1) := by decide +kernel
theorem dX11_goesOn_96 : decode cX11_goesOn 96 = .ok (.aload_n 0, 1) := by decide +kernel
theorem dX11_goesOn_97 : decode cX11_goesOn 97 = .ok (.getfield 220, 3) := by decide +kernel
theorem dX11_goesOn_100 : decode cX11_goesOn 100 = .ok (.invokevirtual 226, 3) := by decide +kernel
theorem dX11_goesOn_103 : decode cX11_goesOn 103 = .ok (.ifCond .eq 53, 3) := by decide +kernel
theorem dX11_goesOn_106 : decode cX11_goesOn 106 = .ok (.aload_n 0, 1) := by decide +kernel
theorem dX11_goesOn_107 : decode cX11_goesOn 107 = .ok (.aload_n 0, 1) := by decide +kernel
theorem dX11_goesOn_108 : decode cX11_goesOn 108 = .ok (.getfield 217, 3) := by decide +kernel
theorem dX11_goesOn_111 : decode cX11_goesOn 111 = .ok (.invokevirtual 226, 3) := by decide +kernel
theorem dX11_goesOn_114 : decode cX11_goesOn 114 = .ok (.ifCond .eq 16, 3) := by decide +kernel
theorem dX11_goesOn_117 : decode cX11_goesOn 117 = .ok (.aload_n 0, 1) := by decide +kernel
theorem dX11_goesOn_118 : decode cX11_goesOn 118 = .ok (.dup, 1) := by decide +kernel
theorem dX11_goesOn_119 : decode cX11_goesOn 119 = .ok (.getfield 217, 3) := by decide +kernel
theorem dX11_goesOn_122 : decode cX11_goesOn 122 = .ok (.iconst 1, 1) := by decide +kernel
theorem dX11_goesOn_123 : decode cX11_goesOn 123 = .ok (.iadd, 1) := by decide +kernel
theorem dX11_goesOn_124 : decode cX11_goesOn 124 = .ok (.putfield 217, 3) := by decide +kernel
theorem dX11_goesOn_127 : decode cX11_goesOn 127 = .ok (.goto (-21), 3) := by decide +kernel
theorem dX11_goesOn_130 : decode cX11_goesOn 130 = .ok (.aload_n 0, 1) := by decide +kernel
theorem dX11_goesOn_131 : decode cX11_goesOn 131 = .ok (.aload_n 0, 1) := by decide +kernel
theorem dX11_goesOn_132 : decode cX11_goesOn 132 = .ok (.getfield 217, 3) := by decide +kernel
theorem dX11_goesOn_135 : decode cX11_goesOn 135 = .ok (.aload_n 0, 1) := by decide +kernel
theorem dX11_goesOn_136 : decode cX11_goesOn 136 = .ok (.getfield 220, 3) := by decide +kernel
theorem dX11_goesOn_139 : decode cX11_goesOn 139 = .ok (.isub, 1) := by decide +kernel
theorem dX11_goesOn_140 : decode cX11_goesOn 140 = .ok (.bipush 8, 2) := by decide +kernel
theorem dX11_goesOn_142 : decode cX11_goesOn 142 = .ok (.if_icmp .le 7, 3) := by decide +kernel
theorem dX11_goesOn_145 : decode cX11_goesOn 145 = .ok (.iconst 4, 1) := by decide +kernel
theorem dX11_goesOn_146 : decode cX11_goesOn 146 = .ok (.goto 4, 3) := by decide +kernel
theorem dX11_goesOn_149 : decode cX11_goesOn 149 = .ok (.iconst 1, 1) := by decide +kernel
theorem dX11_goesOn_150 : decode cX11_goesOn 150 = .ok (.putfield 223, 3) := by decide +kernel
theorem dX11_goesOn_153 : decode cX11_goesOn 153 = .ok (.goto 145, 3) := by decide +kernel
theorem dX11_goesOn_156 : decode cX11_goesOn 156 = .ok (.aload_n 0, 1) := by decide +kernel
theorem dX11_goesOn_157 : decode cX11_goesOn 157 = .ok (.aload_n 0, 1) := by decide +kernel
theorem dX11_goesOn_158 : decode cX11_goesOn 158 = .ok (.getfield 220, 3) := by decide +kernel
theorem dX11_goesOn_161 : decode cX11_goesOn 161 = .ok (.invokevirtual 230, 3) := by decide +kernel
theorem dX11_goesOn_164 : decode cX11_goesOn 164 = .ok (.ifCond .eq 101, 3) := by decide +kernel
theorem dX11_goesOn_167 : decode cX11_goesOn 167 = .ok (.aload_n 0, 1) := by decide +kernel
theorem dX11_goesOn_168 : decode cX11_goesOn 168 = .ok (.iconst 0, 1) := by decide +kernel
theorem dX11_goesOn_169 : decode cX11_goesOn 169 = .ok (.putfield 233, 3) := by decide +kernel
theorem dX11_goesOn_172 : decode cX11_goesOn 172 = .ok (.aload_n 0, 1) := by decide +kernel
theorem dX11_goesOn_173 : decode cX11_goesOn 173 = .ok (.aload_n 0, 1) := by decide +kernel
theorem dX11_goesOn_174 : decode cX11_goesOn 174 = .ok (.getfield 217, 3) := by decide +kernel
theorem dX11_goesOn_177 : decode cX11_goesOn 177 = .ok (.invokevirtual 230, 3) := by decide +kernel
theorem dX11_goesOn_180 : decode cX11_goesOn 180 = .ok (.ifCond .eq 60, 3) := by decide +kernel
theorem dX11_goesOn_183 : decode cX11_goesOn 183 = .ok (.aload_n 0, 1) := by decide +kernel
theorem dX11_goesOn_184 : decode cX11_goesOn 184 = .ok (.aload_n 0, 1) := by decide +kernel
theorem dX11_goesOn_185 : decode cX11_goesOn 185 = .ok (.getfield 217, 3) := by decide +kernel
theorem dX11_goesOn_188 : decode cX11_goesOn 188 = .ok (.aload_n 0, 1) := by decide +kernel
theorem dX11_goesOn_189 : decode cX11_goesOn 189 = .ok (.getfield 220, 3) := by decide +kernel
theorem dX11_goesOn_192 : decode cX11_goesOn 192 = .ok (.isub, 1) := by decide +kernel
theorem dX11_goesOn_193 : decode cX11_goesOn 193 = .ok (.iconst 3, 1) := by decide +kernel
theorem dX11_goesOn_194 : decode cX11_goesOn 194 = .ok (.if_icmp .ge 26, 3) := by decide +kernel
theorem dX11_goesOn_197 : decode cX11_goesOn 197 = .ok (.bipush 10, 2) := by decide +kernel
theorem dX11_goesOn_199 : decode cX11_goesOn 199 = .ok (.aload_n 0, 1) := by decide +kernel
theorem dX11_goesOn_200 : decode cX11_goesOn 200 = .ok (.getfield 233, 3) := by decide +kernel
theorem dX11_goesOn_203 : decode cX11_goesOn 203 = .ok (.imul, 1) := by decide +kernel
theorem dX11_goesOn_204 : decode cX11_goesOn 204 = .ok (.aload_n 0, 1) := by decide +kernel
theorem dX11_goesOn_205 : decode cX11_goesOn 205 = .ok (.getfield 31, 3) := by decide +kernel
theorem dX11_goesOn_208 : decode cX11_goesOn 208 = .ok (.aload_n 0, 1) := by decide +kernel
theorem dX11_goesOn_209 : decode cX11_goesOn 209 = .ok (.getfield 217, 3) := by decide +kernel
theorem dX11_goesOn_212 : decode cX11_goesOn 212 = .ok (.baload, 1) := by decide +kernel
theorem dX11_goesOn_213 : decode cX11_goesOn 213 = .ok (.iadd, 1) := by decide +kernel
theorem dX11_goesOn_214 : decode cX11_goesOn 214 = .ok (.bipush 48, 2) := by decide +kernel
theorem dX11_goesOn_216 : decode cX11_goesOn 216 = .ok (.isub, 1) := by decide +kernel
theorem dX11_goesOn_217 : decode cX11_goesOn 217 = .ok (.goto 7, 3) := by decide +kernel
theorem dX11_goesOn_220 : decode cX11_goesOn 220 = .ok (.aload_n 0, 1) := by decide +kernel
theorem dX11_goesOn_221 : decode cX11_goesOn 221 = .ok (.getfield 233, 3) := by decide +kernel
theorem dX11_goesOn_224 : decode cX11_goesOn 224 = .ok (.putfield 233, 3) := by decide +kernel
theorem dX11_goesOn_227 : decode cX11_goesOn 227 = .ok (.aload_n 0, 1) := by decide +kernel
theorem dX11_goesOn_228 : decode cX11_goesOn 228 = .ok (.dup, 1) := by decide +kernel
theorem dX11_goesOn_229 : decode cX11_goesOn 229 = .ok (.getfield 217, 3) := by decide +kernel
theorem dX11_goesOn_232 : decode cX11_goesOn 232 = .ok (.iconst 1, 1) := by decide +kernel
theorem dX11_goesOn_233 : decode cX11_goesOn 233 = .ok (.iadd, 1) := by decide +kernel
theorem dX11_goesOn_234 : decode cX11_goesOn 234 = .ok (.putfield 217, 3) := by decide +kernel
theorem dX11_goesOn_237 : decode cX11_goesOn 237 = .ok (.goto (-65), 3) := by decide +kernel
theorem dX11_goesOn_240 : decode cX11_goesOn 240 = .ok (.aload_n 0, 1) := by decide +kernel
theorem dX11_goesOn_241 : decode cX11_goesOn 241 = .ok (.aload_n 0, 1) := by decide +kernel
theorem dX11_goesOn_242 : decode cX11_goesOn 242 = .ok (.getfield 217, 3) := by decide +kernel
theorem dX11_goesOn_245 : decode cX11_goesOn 245 = .ok (.aload_n 0, 1) := by decide +kernel
theorem dX11_goesOn_246 : decode cX11_goesOn 246 = .ok (.getfield 220, 3) := by decide +kernel
theorem dX11_goesOn_249 : decode cX11_goesOn 249 = .ok (.isub, 1) := by decide +kernel
theorem dX11_goesOn_250 : decode cX11_goesOn 250 = .ok (.iconst 3, 1) := by decide +kernel
theorem dX11_goesOn_251 : decode cX11_goesOn 251 = .ok (.if_icmp .le 7, 3) := by decide +kernel
theorem dX11_goesOn_254 : decode cX11_goesOn 254 = .ok (.iconst 4, 1) := by decide +kernel
theorem dX11_goesOn_255 : decode cX11_goesOn 255 = .ok (.goto 4, 3) := by decide +kernel
theorem dX11_goesOn_258 : decode cX11_goesOn 258 = .ok (.iconst 2, 1) := by decide +kernel
theorem dX11_goesOn_259 : decode cX11_goesOn 259 = .ok (.putfield 223, 3) := by decide +kernel
theorem dX11_goesOn_262 : decode cX11_goesOn 262 = .ok (.goto 36, 3) := by decide +kernel
theorem dX11_goesOn_265 : decode cX11_goesOn 265 = .ok (.aload_n 0, 1) := by decide +kernel
theorem dX11_goesOn_266 : decode cX11_goesOn 266 = .ok (.aload_n 0, 1) := by decide +kernel
theorem dX11_goesOn_267 : decode cX11_goesOn 267 = .ok (.getfield 31, 3) := by decide +kernel
theorem dX11_goesOn_270 : decode cX11_goesOn 270 = .ok (.aload_n 0, 1) := by decide +kernel
theorem dX11_goesOn_271 : decode cX11_goesOn 271 = .ok (.getfield 220, 3) := by decide +kernel
theorem dX11_goesOn_274 : decode cX11_goesOn 274 = .ok (.baload, 1) := by decide +kernel
theorem dX11_goesOn_275 : decode cX11_goesOn 275 = .ok (.bipush 59, 2) := by decide +kernel
theorem dX11_goesOn_277 : decode cX11_goesOn 277 = .ok (.if_icmp .ne 7, 3) := by decide +kernel
theorem dX11_goesOn_280 : decode cX11_goesOn 280 = .ok (.iconst 3, 1) := by decide +kernel
theorem dX11_goesOn_281 : decode cX11_goesOn 281 = .ok (.goto 4, 3) := by decide +kernel
theorem dX11_goesOn_284 : decode cX11_goesOn 284 = .ok (.iconst 4, 1) := by decide +kernel
theorem dX11_goesOn_285 : decode cX11_goesOn 285 = .ok (.putfield 223, 3) := by decide +kernel
theorem dX11_goesOn_288 : decode cX11_goesOn 288 = .ok (.aload_n 0, 1) := by decide +kernel
theorem dX11_goesOn_289 : decode cX11_goesOn 289 = .ok (.dup, 1) := by decide +kernel
theorem dX11_goesOn_290 : decode cX11_goesOn 290 = .ok (.getfield 217, 3) := by decide +kernel
theorem dX11_goesOn_293 : decode cX11_goesOn 293 = .ok (.iconst 1, 1) := by decide +kernel
theorem dX11_goesOn_294 : decode cX11_goesOn 294 = .ok (.iadd, 1) := by decide +kernel
theorem dX11_goesOn_295 : decode cX11_goesOn 295 = .ok (.putfield 217, 3) := by decide +kernel
theorem dX11_goesOn_298 : decode cX11_goesOn 298 = .ok (.return_, 1) := by decide +kernel
theorem dX11_need_0 : decode cX11_need 0 = .ok (.aload_n 0, 1) := by decide +kernel
theorem dX11_need_1 : decode cX11_need 1 = .ok (.getfield 214, 3) := by decide +kernel
theorem dX11_need_4 : decode cX11_need 4 = .ok (.ifCond .ne 20, 3) := by decide +kernel
theorem dX11_need_7 : decode cX11_need 7 = .ok (.iload_n 1, 1) := by decide +kernel
theorem dX11_need_8 : decode cX11_need 8 = .ok (.ifCond .ne 16, 3) := by decide +kernel
theorem dX11_need_11 : decode cX11_need 11 = .ok (.aload_n 0, 1) := by decide +kernel
theorem dX11_need_12 : decode cX11_need 12 = .ok (.iload_n 2, 1) := by decide +kernel
theorem dX11_need_13 : decode cX11_need 13 = .ok (.putfield 214, 3) := by decide +kernel
theorem dX11_need_16 : decode cX11_need 16 = .ok (.aload_n 0, 1) := by decide +kernel
theorem dX11_need_17 : decode cX11_need 17 = .ok (.aload_n 0, 1) := by decide +kernel
theorem dX11_need_18 : decode cX11_need 18 = .ok (.getfield 220, 3) := by decide +kernel
theorem dX11_need_21 : decode cX11_need 21 = .ok (.putfield 236, 3) := by decide +kernel
theorem dX11_need_24 : decode cX11_need 24 = .ok (.return_, 1) := by decide +kernel
theorem dX11_starts_0 : decode cX11_starts 0 = .ok (.aload_n 0, 1) := by decide +kernel
theorem dX11_starts_1 : decode cX11_starts 1 = .ok (.iconst 0, 1) := by decide +kernel
theorem dX11_starts_2 : decode cX11_starts 2 = .ok (.putfield 214, 3) := by decide +kernel
theorem dX11_starts_5 : decode cX11_starts 5 = .ok (.aload_n 0, 1) := by decide +kernel
theorem dX11_starts_6 : decode cX11_starts 6 = .ok (.iconst 0, 1) := by decide +kernel
theorem dX11_starts_7 : decode cX11_starts 7 = .ok (.putfield 217, 3) := by decide +kernel
theorem dX11_starts_10 : decode cX11_starts 10 = .ok (.aload_n 0, 1) := by decide +kernel
theorem dX11_starts_11 : decode cX11_starts 11 = .ok (.invokevirtual 239, 3) := by decide +kernel
theorem dX11_starts_14 : decode cX11_starts 14 = .ok (.return_, 1) := by decide +kernel
theorem dX11_ending_0 : decode cX11_ending 0 = .ok (.aload_n 0, 1) := by decide +kernel
theorem dX11_ending_1 : decode cX11_ending 1 = .ok (.aload_n 0, 1) := by decide +kernel
theorem dX11_ending_2 : decode cX11_ending 2 = .ok (.getfield 214, 3) := by decide +kernel
theorem dX11_ending_5 : decode cX11_ending 5 = .ok (.putfield 203, 3) := by decide +kernel
theorem dX11_ending_8 : decode cX11_ending 8 = .ok (.aload_n 0, 1) := by decide +kernel
theorem dX11_ending_9 : decode cX11_ending 9 = .ok (.aload_n 0, 1) := by decide +kernel
theorem dX11_ending_10 : decode cX11_ending 10 = .ok (.getfield 214, 3) := by decide +kernel
theorem dX11_ending_13 : decode cX11_ending 13 = .ok (.ifCond .ne 7, 3) := by decide +kernel
theorem dX11_ending_16 : decode cX11_ending 16 = .ok (.iconst (-1), 1) := by decide +kernel
theorem dX11_ending_17 : decode cX11_ending 17 = .ok (.goto 7, 3) := by decide +kernel
theorem dX11_ending_20 : decode cX11_ending 20 = .ok (.aload_n 0, 1) := by decide +kernel
theorem dX11_ending_21 : decode cX11_ending 21 = .ok (.getfield 236, 3) := by decide +kernel
theorem dX11_ending_24 : decode cX11_ending 24 = .ok (.putfield 35, 3) := by decide +kernel
theorem dX11_ending_27 : decode cX11_ending 27 = .ok (.aload_n 0, 1) := by decide +kernel
theorem dX11_ending_28 : decode cX11_ending 28 = .ok (.iconst 0, 1) := by decide +kernel
theorem dX11_ending_29 : decode cX11_ending 29 = .ok (.putfield 193, 3) := by decide +kernel
theorem dX11_ending_32 : decode cX11_ending 32 = .ok (.return_, 1) := by decide +kernel
theorem dX11_isWord_0 : decode cX11_isWord 0 = .ok (.aload_n 0, 1) := by decide +kernel
theorem dX11_isWord_1 : decode cX11_isWord 1 = .ok (.getfield 214, 3) := by decide +kernel
theorem dX11_isWord_4 : decode cX11_isWord 4 = .ok (.ifCond .gt 27, 3) := by decide +kernel
theorem dX11_isWord_7 : decode cX11_isWord 7 = .ok (.aload_n 0, 1) := by decide +kernel
theorem dX11_isWord_8 : decode cX11_isWord 8 = .ok (.getfield 223, 3) := by decide +kernel
theorem dX11_isWord_11 : decode cX11_isWord 11 = .ok (.iconst 1, 1) := by decide +kernel
theorem dX11_isWord_12 : decode cX11_isWord 12 = .ok (.if_icmp .ne 19, 3) := by decide +kernel
theorem dX11_isWord_15 : decode cX11_isWord 15 = .ok (.aload_n 0, 1) := by decide +kernel
theorem dX11_isWord_16 : decode cX11_isWord 16 = .ok (.getfield 217, 3) := by decide +kernel
theorem dX11_isWord_19 : decode cX11_isWord 19 = .ok (.aload_n 0, 1) := by decide +kernel
theorem dX11_isWord_20 : decode cX11_isWord 20 = .ok (.getfield 220, 3) := by decide +kernel
theorem dX11_isWord_23 : decode cX11_isWord 23 = .ok (.isub, 1) := by decide +kernel
theorem dX11_isWord_24 : decode cX11_isWord 24 = .ok (.aload_n 1, 1) := by decide +kernel
theorem dX11_isWord_25 : decode cX11_isWord 25 = .ok (.invokevirtual 57, 3) := by decide +kernel
theorem dX11_isWord_28 : decode cX11_isWord 28 = .ok (.if_icmp .eq 5, 3) := by decide +kernel
theorem dX11_isWord_31 : decode cX11_isWord 31 = .ok (.iconst 0, 1) := by decide +kernel
theorem dX11_isWord_32 : decode cX11_isWord 32 = .ok (.ireturn, 1) := by decide +kernel
theorem dX11_isWord_33 : decode cX11_isWord 33 = .ok (.iconst 0, 1) := by decide +kernel
theorem dX11_isWord_34 : decode cX11_isWord 34 = .ok (.istore_n 2, 1) := by decide +kernel
theorem dX11_isWord_35 : decode cX11_isWord 35 = .ok (.iload_n 2, 1) := by decide +kernel
theorem dX11_isWord_36 : decode cX11_isWord 36 = .ok (.aload_n 1, 1) := by decide +kernel
theorem dX11_isWord_37 : decode cX11_isWord 37 = .ok (.invokevirtual 57, 3) := by decide +kernel
theorem dX11_isWord_40 : decode cX11_isWord 40 = .ok (.if_icmp .ge 30, 3) := by decide +kernel
theorem dX11_isWord_43 : decode cX11_isWord 43 = .ok (.aload_n 0, 1) := by decide +kernel
theorem dX11_isWord_44 : decode cX11_isWord 44 = .ok (.getfield 31, 3) := by decide +kernel
theorem dX11_isWord_47 : decode cX11_isWord 47 = .ok (.aload_n 0, 1) := by decide +kernel
theorem dX11_isWord_48 : decode cX11_isWord 48 = .ok (.getfield 220, 3) := by decide +kernel
theorem dX11_isWord_51 : decode cX11_isWord 51 = .ok (.iload_n 2, 1) := by decide +kernel
theorem dX11_isWord_52 : decode cX11_isWord 52 = .ok (.iadd, 1) := by decide +kernel
theorem dX11_isWord_53 : decode cX11_isWord 53 = .ok (.baload, 1) := by decide +kernel
theorem dX11_isWord_54 : decode cX11_isWord 54 = .ok (.aload_n 1, 1) := by decide +kernel
theorem dX11_isWord_55 : decode cX11_isWord 55 = .ok (.iload_n 2, 1) := by decide +kernel
theorem dX11_isWord_56 : decode cX11_isWord 56 = .ok (.invokevirtual 66, 3) := by decide +kernel
theorem dX11_isWord_59 : decode cX11_isWord 59 = .ok (.if_icmp .eq 5, 3) := by decide +kernel
theorem dX11_isWord_62 : decode cX11_isWord 62 = .ok (.iconst 0, 1) := by decide +kernel
theorem dX11_isWord_63 : decode cX11_isWord 63 = .ok (.ireturn, 1) := by decide +kernel
theorem dX11_isWord_64 : decode cX11_isWord 64 = .ok (.iinc 2 1, 3) := by decide +kernel
theorem dX11_isWord_67 : decode cX11_isWord 67 = .ok (.goto (-32), 3) := by decide +kernel
theorem dX11_isWord_70 : decode cX11_isWord 70 = .ok (.iconst 1, 1) := by decide +kernel
theorem dX11_isWord_71 : decode cX11_isWord 71 = .ok (.ireturn, 1) := by decide +kernel
theorem dX11_numberHere_0 : decode cX11_numberHere 0 = .ok (.aload_n 0, 1) := by decide +kernel
theorem dX11_numberHere_1 : decode cX11_numberHere 1 = .ok (.aload_n 0, 1) := by decide +kernel
theorem dX11_numberHere_2 : decode cX11_numberHere 2 = .ok (.getfield 223, 3) := by decide +kernel
theorem dX11_numberHere_5 : decode cX11_numberHere 5 = .ok (.iconst 2, 1) := by decide +kernel
theorem dX11_numberHere_6 : decode cX11_numberHere 6 = .ok (.if_icmp .ne 7, 3) := by decide +kernel
theorem dX11_numberHere_9 : decode cX11_numberHere 9 = .ok (.iconst 1, 1) := by decide +kernel
theorem dX11_numberHere_10 : decode cX11_numberHere 10 = .ok (.goto 4, 3) := by decide +kernel
theorem dX11_numberHere_13 : decode cX11_numberHere 13 = .ok (.iconst 0, 1) := by decide +kernel
theorem dX11_numberHere_14 : decode cX11_numberHere 14 = .ok (.iconst 1, 1) := by decide +kernel
theorem dX11_numberHere_15 : decode cX11_numberHere 15 = .ok (.invokevirtual 242, 3) := by decide +kernel
theorem dX11_numberHere_18 : decode cX11_numberHere 18 = .ok (.aload_n 0, 1) := by decide +kernel
theorem dX11_numberHere_19 : decode cX11_numberHere 19 = .ok (.aload_n 0, 1) := by decide +kernel
theorem dX11_numberHere_20 : decode cX11_numberHere 20 = .ok (.getfield 233, 3) := by decide +kernel
theorem dX11_numberHere_23 : decode cX11_numberHere 23 = .ok (.i2l, 1) := by decide +kernel
theorem dX11_numberHere_24 : decode cX11_numberHere 24 = .ok (.iload_n 1, 1) := by decide +kernel
theorem dX11_numberHere_25 : decode cX11_numberHere 25 = .ok (.i2l, 1) := by decide +kernel
theorem dX11_numberHere_26 : decode cX11_numberHere 26 = .ok (.iload_n 2, 1) := by decide +kernel
theorem dX11_numberHere_27 : decode cX11_numberHere 27 = .ok (.i2l, 1) := by decide +kernel
theorem dX11_numberHere_28 : decode cX11_numberHere 28 = .ok (.invokestatic 199, 3) := by decide +kernel
theorem dX11_numberHere_31 : decode cX11_numberHere 31 = .ok (.iconst 2, 1) := by decide +kernel
theorem dX11_numberHere_32 : decode cX11_numberHere 32 = .ok (.invokevirtual 242, 3) := by decide +kernel
theorem dX11_numberHere_35 : decode cX11_numberHere 35 = .ok (.aload_n 0, 1) := by decide +kernel
theorem dX11_numberHere_36 : decode cX11_numberHere 36 = .ok (.getfield 214, 3) := by decide +kernel
theorem dX11_numberHere_39 : decode cX11_numberHere 39 = .ok (.ifCond .ne 10, 3) := by decide +kernel
theorem dX11_numberHere_42 : decode cX11_numberHere 42 = .ok (.aload_n 0, 1) := by decide +kernel
theorem dX11_numberHere_43 : decode cX11_numberHere 43 = .ok (.getfield 233, 3) := by decide +kernel
theorem dX11_numberHere_46 : decode cX11_numberHere 46 = .ok (.goto 4, 3) := by decide +kernel
theorem dX11_numberHere_49 : decode cX11_numberHere 49 = .ok (.iload_n 1, 1) := by decide +kernel
theorem dX11_numberHere_50 : decode cX11_numberHere 50 = .ok (.ireturn, 1) := by decide +kernel
theorem dX11_number_0 : decode cX11_number 0 = .ok (.aload_n 0, 1) := by decide +kernel
theorem dX11_number_1 : decode cX11_number 1 = .ok (.iload_n 1, 1) := by decide +kernel
theorem dX11_number_2 : decode cX11_number 2 = .ok (.iload_n 2, 1) := by decide +kernel
theorem dX11_number_3 : decode cX11_number 3 = .ok (.invokevirtual 246, 3) := by decide +kernel
theorem dX11_number_6 : decode cX11_number 6 = .ok (.istore_n 3, 1) := by decide +kernel
theorem dX11_number_7 : decode cX11_number 7 = .ok (.aload_n 0, 1) := by decide +kernel
theorem dX11_number_8 : decode cX11_number 8 = .ok (.invokevirtual 239, 3) := by decide +kernel
theorem dX11_number_11 : decode cX11_number 11 = .ok (.iload_n 3, 1) := by decide +kernel
theorem dX11_number_12 : decode cX11_number 12 = .ok (.ireturn, 1) := by decide +kernel
theorem dX11_semicolon_0 : decode cX11_semicolon 0 = .ok (.aload_n 0, 1) := by decide +kernel
theorem dX11_semicolon_1 : decode cX11_semicolon 1 = .ok (.aload_n 0, 1) := by decide +kernel
theorem dX11_semicolon_2 : decode cX11_semicolon 2 = .ok (.getfield 223, 3) := by decide +kernel
theorem dX11_semicolon_5 : decode cX11_semicolon 5 = .ok (.iconst 3, 1) := by decide +kernel
theorem dX11_semicolon_6 : decode cX11_semicolon 6 = .ok (.if_icmp .ne 7, 3) := by decide +kernel
theorem dX11_semicolon_9 : decode cX11_semicolon 9 = .ok (.iconst 1, 1) := by decide +kernel
theorem dX11_semicolon_10 : decode cX11_semicolon 10 = .ok (.goto 4, 3) := by decide +kernel
theorem dX11_semicolon_13 : decode cX11_semicolon 13 = .ok (.iconst 0, 1) := by decide +kernel
theorem dX11_semicolon_14 : decode cX11_semicolon 14 = .ok (.iconst 1, 1) := by decide +kernel
theorem dX11_semicolon_15 : decode cX11_semicolon 15 = .ok (.invokevirtual 242, 3) := by decide +kernel
theorem dX11_semicolon_18 : decode cX11_semicolon 18 = .ok (.aload_n 0, 1) := by decide +kernel
theorem dX11_semicolon_19 : decode cX11_semicolon 19 = .ok (.invokevirtual 239, 3) := by decide +kernel
theorem dX11_semicolon_22 : decode cX11_semicolon 22 = .ok (.return_, 1) := by decide +kernel
theorem dX11_spells_0 : decode cX11_spells 0 = .ok (.aload_n 0, 1) := by decide +kernel
theorem dX11_spells_1 : decode cX11_spells 1 = .ok (.aload_n 0, 1) := by decide +kernel
theorem dX11_spells_2 : decode cX11_spells 2 = .ok (.getfield 223, 3) := by decide +kernel
theorem dX11_spells_5 : decode cX11_spells 5 = .ok (.iconst 1, 1) := by decide +kernel
theorem dX11_spells_6 : decode cX11_spells 6 = .ok (.if_icmp .ne 21, 3) := by decide +kernel
theorem dX11_spells_9 : decode cX11_spells 9 = .ok (.aload_n 0, 1) := by decide +kernel
theorem dX11_spells_10 : decode cX11_spells 10 = .ok (.getfield 217, 3) := by decide +kernel
theorem dX11_spells_13 : decode cX11_spells 13 = .ok (.aload_n 0, 1) := by decide +kernel
theorem dX11_spells_14 : decode cX11_spells 14 = .ok (.getfield 220, 3) := by decide +kernel
theorem dX11_spells_17 : decode cX11_spells 17 = .ok (.isub, 1) := by decide +kernel
theorem dX11_spells_18 : decode cX11_spells 18 = .ok (.bipush 6, 2) := by decide +kernel
theorem dX11_spells_20 : decode cX11_spells 20 = .ok (.if_icmp .gt 7, 3) := by decide +kernel
theorem dX11_spells_23 : decode cX11_spells 23 = .ok (.iconst 1, 1) := by decide +kernel
theorem dX11_spells_24 : decode cX11_spells 24 = .ok (.goto 4, 3) := by decide +kernel
theorem dX11_spells_27 : decode cX11_spells 27 = .ok (.iconst 0, 1) := by decide +kernel
theorem dX11_spells_28 : decode cX11_spells 28 = .ok (.iconst 1, 1) := by decide +kernel
theorem dX11_spells_29 : decode cX11_spells 29 = .ok (.invokevirtual 242, 3) := by decide +kernel
theorem dX11_spells_32 : decode cX11_spells 32 = .ok (.aload_n 0, 1) := by decide +kernel
theorem dX11_spells_33 : decode cX11_spells 33 = .ok (.aload_n 0, 1) := by decide +kernel
theorem dX11_spells_34 : decode cX11_spells 34 = .ok (.getfield 214, 3) := by decide +kernel
theorem dX11_spells_37 : decode cX11_spells 37 = .ok (.ifCond .ne 15, 3) := by decide +kernel
theorem dX11_spells_40 : decode cX11_spells 40 = .ok (.aload_n 0, 1) := by decide +kernel
theorem dX11_spells_41 : decode cX11_spells 41 = .ok (.getfield 217, 3) := by decide +kernel
theorem dX11_spells_44 : decode cX11_spells 44 = .ok (.aload_n 0, 1) := by decide +kernel
theorem dX11_spells_45 : decode cX11_spells 45 = .ok (.getfield 220, 3) := by decide +kernel
theorem dX11_spells_48 : decode cX11_spells 48 = .ok (.isub, 1) := by decide +kernel
theorem dX11_spells_49 : decode cX11_spells 49 = .ok (.goto 4, 3) := by decide +kernel
theorem dX11_spells_52 : decode cX11_spells 52 = .ok (.iconst 0, 1) := by decide +kernel
theorem dX11_spells_53 : decode cX11_spells 53 = .ok (.putfield 63, 3) := by decide +kernel
theorem dX11_spells_56 : decode cX11_spells 56 = .ok (.iconst 0, 1) := by decide +kernel
theorem dX11_spells_57 : decode cX11_spells 57 = .ok (.istore_n 1, 1) := by decide +kernel
theorem dX11_spells_58 : decode cX11_spells 58 = .ok (.iload_n 1, 1) := by decide +kernel
theorem dX11_spells_59 : decode cX11_spells 59 = .ok (.aload_n 0, 1) := by decide +kernel
theorem dX11_spells_60 : decode cX11_spells 60 = .ok (.getfield 63, 3) := by decide +kernel
theorem dX11_spells_63 : decode cX11_spells 63 = .ok (.if_icmp .ge 26, 3) := by decide +kernel
theorem dX11_spells_66 : decode cX11_spells 66 = .ok (.aload_n 0, 1) := by decide +kernel
theorem dX11_spells_67 : decode cX11_spells 67 = .ok (.getfield 22, 3) := by decide +kernel
theorem dX11_spells_70 : decode cX11_spells 70 = .ok (.iload_n 1, 1) := by decide +kernel
theorem dX11_spells_71 : decode cX11_spells 71 = .ok (.aload_n 0, 1) := by decide +kernel
theorem dX11_spells_72 : decode cX11_spells 72 = .ok (.getfield 31, 3) := by decide +kernel
theorem dX11_spells_75 : decode cX11_spells 75 = .ok (.aload_n 0, 1) := by decide +kernel
theorem dX11_spells_76 : decode cX11_spells 76 = .ok (.getfield 220, 3) := by decide +kernel
theorem dX11_spells_79 : decode cX11_spells 79 = .ok (.iload_n 1, 1) := by decide +kernel
theorem dX11_spells_80 : decode cX11_spells 80 = .ok (.iadd, 1) := by decide +kernel
theorem dX11_spells_81 : decode cX11_spells 81 = .ok (.baload, 1) := by decide +kernel
theorem dX11_spells_82 : decode cX11_spells 82 = .ok (.iastore, 1) := by decide +kernel
theorem dX11_spells_83 : decode cX11_spells 83 = .ok (.iinc 1 1, 3) := by decide +kernel
theorem dX11_spells_86 : decode cX11_spells 86 = .ok (.goto (-28), 3) := by decide +kernel
theorem dX11_spells_89 : decode cX11_spells 89 = .ok (.return_, 1) := by decide +kernel
theorem dX11_roofHere_0 : decode cX11_roofHere 0 = .ok (.aload_n 0, 1) := by decide +kernel
theorem dX11_roofHere_1 : decode cX11_roofHere 1 = .ok (.invokevirtual 249, 3) := by decide +kernel
theorem dX11_roofHere_4 : decode cX11_roofHere 4 = .ok (.aload_n 0, 1) := by decide +kernel
theorem dX11_roofHere_5 : decode cX11_roofHere 5 = .ok (.getfield 214, 3) := by decide +kernel
theorem dX11_roofHere_8 : decode cX11_roofHere 8 = .ok (.ifCond .ne 10, 3) := by decide +kernel
theorem dX11_roofHere_11 : decode cX11_roofHere 11 = .ok (.aload_n 0, 1) := by decide +kernel
theorem dX11_roofHere_12 : decode cX11_roofHere 12 = .ok (.invokevirtual 252, 3) := by decide +kernel
theorem dX11_roofHere_15 : decode cX11_roofHere 15 = .ok (.goto 4, 3) := by decide +kernel
theorem dX11_roofHere_18 : decode cX11_roofHere 18 = .ok (.iconst 0, 1) := by decide +kernel
theorem dX11_roofHere_19 : decode cX11_roofHere 19 = .ok (.istore_n 2, 1) := by decide +kernel
theorem dX11_roofHere_20 : decode cX11_roofHere 20 = .ok (.aload_n 0, 1) := by decide +kernel
theorem dX11_roofHere_21 : decode cX11_roofHere 21 = .ok (.aload_n 0, 1) := by decide +kernel
theorem dX11_roofHere_22 : decode cX11_roofHere 22 = .ok (.getfield 214, 3) := by decide +kernel
theorem dX11_roofHere_25 : decode cX11_roofHere 25 = .ok (.ifCond .gt 13, 3) := by decide +kernel
theorem dX11_roofHere_28 : decode cX11_roofHere 28 = .ok (.iload_n 2, 1) := by decide +kernel
theorem dX11_roofHere_29 : decode cX11_roofHere 29 = .ok (.iconst (-1), 1) := by decide +kernel
theorem dX11_roofHere_30 : decode cX11_roofHere 30 = .ok (.if_icmp .eq 12, 3) := by decide +kernel
theorem dX11_roofHere_33 : decode cX11_roofHere 33 = .ok (.iload_n 2, 1) := by decide +kernel
theorem dX11_roofHere_34 : decode cX11_roofHere 34 = .ok (.iload_n 1, 1) := by decide +kernel
theorem dX11_roofHere_35 : decode cX11_roofHere 35 = .ok (.if_icmp .eq 7, 3) := by decide +kernel
theorem dX11_roofHere_38 : decode cX11_roofHere 38 = .ok (.iconst 1, 1) := by decide +kernel
theorem dX11_roofHere_39 : decode cX11_roofHere 39 = .ok (.goto 4, 3) := by decide +kernel
theorem dX11_roofHere_42 : decode cX11_roofHere 42 = .ok (.iconst 0, 1) := by decide +kernel
theorem dX11_roofHere_43 : decode cX11_roofHere 43 = .ok (.iconst 3, 1) := by decide +kernel
theorem dX11_roofHere_44 : decode cX11_roofHere 44 = .ok (.invokevirtual 242, 3) := by decide +kernel
theorem dX11_roofHere_47 : decode cX11_roofHere 47 = .ok (.iconst 0, 1) := by decide +kernel
theorem dX11_roofHere_48 : decode cX11_roofHere 48 = .ok (.iload_n 2, 1) := by decide +kernel
theorem dX11_roofHere_49 : decode cX11_roofHere 49 = .ok (.invokestatic 129, 3) := by decide +kernel
theorem dX11_roofHere_52 : decode cX11_roofHere 52 = .ok (.ireturn, 1) := by decide +kernel
theorem dX11_roofOfText_0 : decode cX11_roofOfText 0 = .ok (.aload_n 0, 1) := by decide +kernel
theorem dX11_roofOfText_1 : decode cX11_roofOfText 1 = .ok (.iload_n 1, 1) := by decide +kernel
theorem dX11_roofOfText_2 : decode cX11_roofOfText 2 = .ok (.invokevirtual 255, 3) := by decide +kernel
theorem dX11_roofOfText_5 : decode cX11_roofOfText 5 = .ok (.istore_n 2, 1) := by decide +kernel
theorem dX11_roofOfText_6 : decode cX11_roofOfText 6 = .ok (.aload_n 0, 1) := by decide +kernel
theorem dX11_roofOfText_7 : decode cX11_roofOfText 7 = .ok (.invokevirtual 239, 3) := by decide +kernel
theorem dX11_roofOfText_10 : decode cX11_roofOfText 10 = .ok (.iload_n 2, 1) := by decide +kernel
theorem dX11_roofOfText_11 : decode cX11_roofOfText 11 = .ok (.ireturn, 1) := by decide +kernel
theorem dX11_settingHere_0 : decode cX11_settingHere 0 = .ok (.aload_n 0, 1) := by decide +kernel
theorem dX11_settingHere_1 : decode cX11_settingHere 1 = .ok (.ldc_w 258, 3) := by decide +kernel
theorem dX11_settingHere_4 : decode cX11_settingHere 4 = .ok (.invokevirtual 260, 3) := by decide +kernel
theorem dX11_settingHere_7 : decode cX11_settingHere 7 = .ok (.ifCond .eq 7, 3) := by decide +kernel
theorem dX11_settingHere_10 : decode cX11_settingHere 10 = .ok (.iconst 4, 1) := by decide +kernel
theorem dX11_settingHere_11 : decode cX11_settingHere 11 = .ok (.goto 33, 3) := by decide +kernel
theorem dX11_settingHere_14 : decode cX11_settingHere 14 = .ok (.aload_n 0, 1) := by decide +kernel
theorem dX11_settingHere_15 : decode cX11_settingHere 15 = .ok (.ldc_w 264, 3) := by decide +kernel
theorem dX11_settingHere_18 : decode cX11_settingHere 18 = .ok (.invokevirtual 260, 3) := by decide +kernel
theorem dX11_settingHere_21 : decode cX11_settingHere 21 = .ok (.ifCond .eq 7, 3) := by decide +kernel
theorem dX11_settingHere_24 : decode cX11_settingHere 24 = .ok (.iconst 5, 1) := by decide +kernel
theorem dX11_settingHere_25 : decode cX11_settingHere 25 = .ok (.goto 19, 3) := by decide +kernel
theorem dX11_settingHere_28 : decode cX11_settingHere 28 = .ok (.aload_n 0, 1) := by decide +kernel
theorem dX11_settingHere_29 : decode cX11_settingHere 29 = .ok (.ldc_w 266, 3) := by decide +kernel
theorem dX11_settingHere_32 : decode cX11_settingHere 32 = .ok (.invokevirtual 260, 3) := by decide +kernel
theorem dX11_settingHere_35 : decode cX11_settingHere 35 = .ok (.ifCond .eq 8, 3) := by decide +kernel
theorem dX11_settingHere_38 : decode cX11_settingHere 38 = .ok (.bipush 6, 2) := by decide +kernel
theorem dX11_settingHere_40 : decode cX11_settingHere 40 = .ok (.goto 4, 3) := by decide +kernel
theorem dX11_settingHere_43 : decode cX11_settingHere 43 = .ok (.iconst (-1), 1) := by decide +kernel
theorem dX11_settingHere_44 : decode cX11_settingHere 44 = .ok (.ireturn, 1) := by decide +kernel
theorem dX11_readsRoof_0 : decode cX11_readsRoof 0 = .ok (.aload_n 0, 1) := by decide +kernel
theorem dX11_readsRoof_1 : decode cX11_readsRoof 1 = .ok (.aload_n 0, 1) := by decide +kernel
theorem dX11_readsRoof_2 : decode cX11_readsRoof 2 = .ok (.getfield 9, 3) := by decide +kernel
theorem dX11_readsRoof_5 : decode cX11_readsRoof 5 = .ok (.iconst 0, 1) := by decide +kernel
theorem dX11_readsRoof_6 : decode cX11_readsRoof 6 = .ok (.iaload, 1) := by decide +kernel
theorem dX11_readsRoof_7 : decode cX11_readsRoof 7 = .ok (.bipush 10, 2) := by decide +kernel
theorem dX11_readsRoof_9 : decode cX11_readsRoof 9 = .ok (.if_icmp .ge 7, 3) := by decide +kernel
theorem dX11_readsRoof_12 : decode cX11_readsRoof 12 = .ok (.iconst 1, 1) := by decide +kernel
theorem dX11_readsRoof_13 : decode cX11_readsRoof 13 = .ok (.goto 4, 3) := by decide +kernel
theorem dX11_readsRoof_16 : decode cX11_readsRoof 16 = .ok (.iconst 0, 1) := by decide +kernel
theorem dX11_readsRoof_17 : decode cX11_readsRoof 17 = .ok (.iconst 5, 1) := by decide +kernel
theorem dX11_readsRoof_18 : decode cX11_readsRoof 18 = .ok (.invokevirtual 242, 3) := by decide +kernel
theorem dX11_readsRoof_21 : decode cX11_readsRoof 21 = .ok (.aload_n 0, 1) := by decide +kernel
theorem dX11_readsRoof_22 : decode cX11_readsRoof 22 = .ok (.invokevirtual 239, 3) := by decide +kernel
theorem dX11_readsRoof_25 : decode cX11_readsRoof 25 = .ok (.aload_n 0, 1) := by decide +kernel
theorem dX11_readsRoof_26 : decode cX11_readsRoof 26 = .ok (.invokevirtual 249, 3) := by decide +kernel
theorem dX11_readsRoof_29 : decode cX11_readsRoof 29 = .ok (.aload_n 0, 1) := by decide +kernel
theorem dX11_readsRoof_30 : decode cX11_readsRoof 30 = .ok (.aload_n 0, 1) := by decide +kernel
theorem dX11_readsRoof_31 : decode cX11_readsRoof 31 = .ok (.getfield 214, 3) := by decide +kernel
theorem dX11_readsRoof_34 : decode cX11_readsRoof 34 = .ok (.ifCond .gt 11, 3) := by decide +kernel
theorem dX11_readsRoof_37 : decode cX11_readsRoof 37 = .ok (.aload_n 0, 1) := by decide +kernel
theorem dX11_readsRoof_38 : decode cX11_readsRoof 38 = .ok (.invokevirtual 252, 3) := by decide +kernel
theorem dX11_readsRoof_41 : decode cX11_readsRoof 41 = .ok (.iconst (-1), 1) := by decide +kernel
theorem dX11_readsRoof_42 : decode cX11_readsRoof 42 = .ok (.if_icmp .ne 7, 3) := by decide +kernel
theorem dX11_readsRoof_45 : decode cX11_readsRoof 45 = .ok (.iconst 1, 1) := by decide +kernel
theorem dX11_readsRoof_46 : decode cX11_readsRoof 46 = .ok (.goto 4, 3) := by decide +kernel
theorem dX11_readsRoof_49 : decode cX11_readsRoof 49 = .ok (.iconst 0, 1) := by decide +kernel
theorem dX11_readsRoof_50 : decode cX11_readsRoof 50 = .ok (.iconst 3, 1) := by decide +kernel
theorem dX11_readsRoof_51 : decode cX11_readsRoof 51 = .ok (.invokevirtual 242, 3) := by decide +kernel
theorem dX11_readsRoof_54 : decode cX11_readsRoof 54 = .ok (.aload_n 0, 1) := by decide +kernel
theorem dX11_readsRoof_55 : decode cX11_readsRoof 55 = .ok (.invokevirtual 239, 3) := by decide +kernel
theorem dX11_readsRoof_58 : decode cX11_readsRoof 58 = .ok (.aload_n 0, 1) := by decide +kernel
theorem dX11_readsRoof_59 : decode cX11_readsRoof 59 = .ok (.iconst 1, 1) := by decide +kernel
theorem dX11_readsRoof_60 : decode cX11_readsRoof 60 = .ok (.bipush 8, 2) := by decide +kernel
theorem dX11_readsRoof_62 : decode cX11_readsRoof 62 = .ok (.invokevirtual 268, 3) := by decide +kernel
theorem dX11_readsRoof_65 : decode cX11_readsRoof 65 = .ok (.istore_n 1, 1) := by decide +kernel
theorem dX11_readsRoof_66 : decode cX11_readsRoof 66 = .ok (.aload_n 0, 1) := by decide +kernel
theorem dX11_readsRoof_67 : decode cX11_readsRoof 67 = .ok (.iconst 0, 1) := by decide +kernel
theorem dX11_readsRoof_68 : decode cX11_readsRoof 68 = .ok (.bipush 9, 2) := by decide +kernel
theorem dX11_readsRoof_70 : decode cX11_readsRoof 70 = .ok (.invokevirtual 268, 3) := by decide +kernel
theorem dX11_readsRoof_73 : decode cX11_readsRoof 73 = .ok (.istore_n 2, 1) := by decide +kernel
theorem dX11_readsRoof_74 : decode cX11_readsRoof 74 = .ok (.aload_n 0, 1) := by decide +kernel
theorem dX11_readsRoof_75 : decode cX11_readsRoof 75 = .ok (.iconst 0, 1) := by decide +kernel
theorem dX11_readsRoof_76 : decode cX11_readsRoof 76 = .ok (.bipush 9, 2) := by decide +kernel
theorem dX11_readsRoof_78 : decode cX11_readsRoof 78 = .ok (.invokevirtual 268, 3) := by decide +kernel
theorem dX11_readsRoof_81 : decode cX11_readsRoof 81 = .ok (.istore_n 3, 1) := by decide +kernel
theorem dX11_readsRoof_82 : decode cX11_readsRoof 82 = .ok (.aload_n 0, 1) := by decide +kernel
theorem dX11_readsRoof_83 : decode cX11_readsRoof 83 = .ok (.iconst 0, 1) := by decide +kernel
theorem dX11_readsRoof_84 : decode cX11_readsRoof 84 = .ok (.sipush 999, 3) := by decide +kernel
theorem dX11_readsRoof_87 : decode cX11_readsRoof 87 = .ok (.invokevirtual 268, 3) := by decide +kernel
theorem dX11_readsRoof_90 : decode cX11_readsRoof 90 = .ok (.istore 4, 2) := by decide +kernel
theorem dX11_readsRoof_92 : decode cX11_readsRoof 92 = .ok (.aload_n 0, 1) := by decide +kernel
theorem dX11_readsRoof_93 : decode cX11_readsRoof 93 = .ok (.getfield 214, 3) := by decide +kernel
theorem dX11_readsRoof_96 : decode cX11_readsRoof 96 = .ok (.ifCond .ne 12, 3) := by decide +kernel
theorem dX11_readsRoof_99 : decode cX11_readsRoof 99 = .ok (.aload_n 0, 1) := by decide +kernel
theorem dX11_readsRoof_100 : decode cX11_readsRoof 100 = .ok (.iload_n 1, 1) := by decide +kernel
theorem dX11_readsRoof_101 : decode cX11_readsRoof 101 = .ok (.iload_n 2, 1) := by decide +kernel
theorem dX11_readsRoof_102 : decode cX11_readsRoof 102 = .ok (.iload_n 3, 1) := by decide +kernel
theorem dX11_readsRoof_103 : decode cX11_readsRoof 103 = .ok (.iload 4, 2) := by decide +kernel
theorem dX11_readsRoof_105 : decode cX11_readsRoof 105 = .ok (.invokevirtual 70, 3) := by decide +kernel
theorem dX11_readsRoof_108 : decode cX11_readsRoof 108 = .ok (.return_, 1) := by decide +kernel
theorem dX11_readsWay_0 : decode cX11_readsWay 0 = .ok (.aload_n 0, 1) := by decide +kernel
theorem dX11_readsWay_1 : decode cX11_readsWay 1 = .ok (.aload_n 0, 1) := by decide +kernel
theorem dX11_readsWay_2 : decode cX11_readsWay 2 = .ok (.getfield 9, 3) := by decide +kernel
theorem dX11_readsWay_5 : decode cX11_readsWay 5 = .ok (.iconst 1, 1) := by decide +kernel
theorem dX11_readsWay_6 : decode cX11_readsWay 6 = .ok (.iaload, 1) := by decide +kernel
theorem dX11_readsWay_7 : decode cX11_readsWay 7 = .ok (.bipush 20, 2) := by decide +kernel
theorem dX11_readsWay_9 : decode cX11_readsWay 9 = .ok (.if_icmp .ge 7, 3) := by decide +kernel
theorem dX11_readsWay_12 : decode cX11_readsWay 12 = .ok (.iconst 1, 1) := by decide +kernel
theorem dX11_readsWay_13 : decode cX11_readsWay 13 = .ok (.goto 4, 3) := by decide +kernel
theorem dX11_readsWay_16 : decode cX11_readsWay 16 = .ok (.iconst 0, 1) := by decide +kernel
theorem dX11_readsWay_17 : decode cX11_readsWay 17 = .ok (.iconst 5, 1) := by decide +kernel
theorem dX11_readsWay_18 : decode cX11_readsWay 18 = .ok (.invokevirtual 242, 3) := by decide +kernel
theorem dX11_readsWay_21 : decode cX11_readsWay 21 = .ok (.aload_n 0, 1) := by decide +kernel
theorem dX11_readsWay_22 : decode cX11_readsWay 22 = .ok (.invokevirtual 239, 3) := by decide +kernel
theorem dX11_readsWay_25 : decode cX11_readsWay 25 = .ok (.aload_n 0, 1) := by decide +kernel
theorem dX11_readsWay_26 : decode cX11_readsWay 26 = .ok (.iconst (-1), 1) := by decide +kernel
theorem dX11_readsWay_27 : decode cX11_readsWay 27 = .ok (.invokevirtual 271, 3) := by decide +kernel
theorem dX11_readsWay_30 : decode cX11_readsWay 30 = .ok (.istore_n 1, 1) := by decide +kernel
theorem dX11_readsWay_31 : decode cX11_readsWay 31 = .ok (.aload_n 0, 1) := by decide +kernel
theorem dX11_readsWay_32 : decode cX11_readsWay 32 = .ok (.iload_n 1, 1) := by decide +kernel
theorem dX11_readsWay_33 : decode cX11_readsWay 33 = .ok (.invokevirtual 255, 3) := by decide +kernel
theorem dX11_readsWay_36 : decode cX11_readsWay 36 = .ok (.istore_n 2, 1) := by decide +kernel
theorem dX11_readsWay_37 : decode cX11_readsWay 37 = .ok (.aload_n 0, 1) := by decide +kernel
theorem dX11_readsWay_38 : decode cX11_readsWay 38 = .ok (.aload_n 0, 1) := by decide +kernel
theorem dX11_readsWay_39 : decode cX11_readsWay 39 = .ok (.getfield 214, 3) := by decide +kernel
theorem dX11_readsWay_42 : decode cX11_readsWay 42 = .ok (.ifCond .gt 13, 3) := by decide +kernel
theorem dX11_readsWay_45 : decode cX11_readsWay 45 = .ok (.aload_n 0, 1) := by decide +kernel
theorem dX11_readsWay_46 : decode cX11_readsWay 46 = .ok (.iload_n 1, 1) := by decide +kernel
theorem dX11_readsWay_47 : decode cX11_readsWay 47 = .ok (.iload_n 2, 1) := by decide +kernel
theorem dX11_readsWay_48 : decode cX11_readsWay 48 = .ok (.invokevirtual 169, 3) := by decide +kernel
theorem dX11_readsWay_51 : decode cX11_readsWay 51 = .ok (.iconst (-1), 1) := by decide +kernel
theorem dX11_readsWay_52 : decode cX11_readsWay 52 = .ok (.if_icmp .ne 7, 3) := by decide +kernel
theorem dX11_readsWay_55 : decode cX11_readsWay 55 = .ok (.iconst 1, 1) := by decide +kernel
theorem dX11_readsWay_56 : decode cX11_readsWay 56 = .ok (.goto 4, 3) := by decide +kernel
theorem dX11_readsWay_59 : decode cX11_readsWay 59 = .ok (.iconst 0, 1) := by decide +kernel
theorem dX11_readsWay_60 : decode cX11_readsWay 60 = .ok (.iconst 4, 1) := by decide +kernel
theorem dX11_readsWay_61 : decode cX11_readsWay 61 = .ok (.invokevirtual 242, 3) := by decide +kernel
theorem dX11_readsWay_64 : decode cX11_readsWay 64 = .ok (.aload_n 0, 1) := by decide +kernel
theorem dX11_readsWay_65 : decode cX11_readsWay 65 = .ok (.invokevirtual 239, 3) := by decide +kernel
theorem dX11_readsWay_68 : decode cX11_readsWay 68 = .ok (.aload_n 0, 1) := by decide +kernel
theorem dX11_readsWay_69 : decode cX11_readsWay 69 = .ok (.iconst 1, 1) := by decide +kernel
theorem dX11_readsWay_70 : decode cX11_readsWay 70 = .ok (.bipush 9, 2) := by decide +kernel
theorem dX11_readsWay_72 : decode cX11_readsWay 72 = .ok (.invokevirtual 268, 3) := by decide +kernel
theorem dX11_readsWay_75 : decode cX11_readsWay 75 = .ok (.istore_n 3, 1) := by decide +kernel
theorem dX11_readsWay_76 : decode cX11_readsWay 76 = .ok (.aload_n 0, 1) := by decide +kernel
theorem dX11_readsWay_77 : decode cX11_readsWay 77 = .ok (.getfield 214, 3) := by decide +kernel
theorem dX11_readsWay_80 : decode cX11_readsWay 80 = .ok (.ifCond .ne 10, 3) := by decide +kernel
theorem dX11_readsWay_83 : decode cX11_readsWay 83 = .ok (.aload_n 0, 1) := by decide +kernel
theorem dX11_readsWay_84 : decode cX11_readsWay 84 = .ok (.iload_n 1, 1) := by decide +kernel
theorem dX11_readsWay_85 : decode cX11_readsWay 85 = .ok (.iload_n 2, 1) := by decide +kernel
theorem dX11_readsWay_86 : decode cX11_readsWay 86 = .ok (.iload_n 3, 1) := by decide +kernel
theorem dX11_readsWay_87 : decode cX11_readsWay 87 = .ok (.invokevirtual 74, 3) := by decide +kernel
theorem dX11_readsWay_90 : decode cX11_readsWay 90 = .ok (.return_, 1) := by decide +kernel
theorem dX11_readsSetting_0 : decode cX11_readsSetting 0 = .ok (.aload_n 0, 1) := by decide +kernel
theorem dX11_readsSetting_1 : decode cX11_readsSetting 1 = .ok (.invokevirtual 274, 3) := by decide +kernel
theorem dX11_readsSetting_4 : decode cX11_readsSetting 4 = .ok (.istore_n 1, 1) := by decide +kernel
theorem dX11_readsSetting_5 : decode cX11_readsSetting 5 = .ok (.aload_n 0, 1) := by decide +kernel
theorem dX11_readsSetting_6 : decode cX11_readsSetting 6 = .ok (.iload_n 1, 1) := by decide +kernel
theorem dX11_readsSetting_7 : decode cX11_readsSetting 7 = .ok (.iconst (-1), 1) := by decide +kernel
theorem dX11_readsSetting_8 : decode cX11_readsSetting 8 = .ok (.if_icmp .eq 7, 3) := by decide +kernel
theorem dX11_readsSetting_11 : decode cX11_readsSetting 11 = .ok (.iconst 1, 1) := by decide +kernel
theorem dX11_readsSetting_12 : decode cX11_readsSetting 12 = .ok (.goto 4, 3) := by decide +kernel
theorem dX11_readsSetting_15 : decode cX11_readsSetting 15 = .ok (.iconst 0, 1) := by decide +kernel
theorem dX11_readsSetting_16 : decode cX11_readsSetting 16 = .ok (.iconst 1, 1) := by decide +kernel
theorem dX11_readsSetting_17 : decode cX11_readsSetting 17 = .ok (.invokevirtual 242, 3) := by decide +kernel
theorem dX11_readsSetting_20 : decode cX11_readsSetting 20 = .ok (.aload_n 0, 1) := by decide +kernel
theorem dX11_readsSetting_21 : decode cX11_readsSetting 21 = .ok (.invokevirtual 239, 3) := by decide +kernel
theorem dX11_readsSetting_24 : decode cX11_readsSetting 24 = .ok (.aload_n 0, 1) := by decide +kernel
theorem dX11_readsSetting_25 : decode cX11_readsSetting 25 = .ok (.getfield 214, 3) := by decide +kernel
theorem dX11_readsSetting_28 : decode cX11_readsSetting 28 = .ok (.ifCond .ne 23, 3) := by decide +kernel
theorem dX11_readsSetting_31 : decode cX11_readsSetting 31 = .ok (.aload_n 0, 1) := by decide +kernel
theorem dX11_readsSetting_32 : decode cX11_readsSetting 32 = .ok (.iload_n 1, 1) := by decide +kernel
theorem dX11_readsSetting_33 : decode cX11_readsSetting 33 = .ok (.invokestatic 277, 3) := by decide +kernel
theorem dX11_readsSetting_36 : decode cX11_readsSetting 36 = .ok (.iload_n 1, 1) := by decide +kernel
theorem dX11_readsSetting_37 : decode cX11_readsSetting 37 = .ok (.invokestatic 280, 3) := by decide +kernel
theorem dX11_readsSetting_40 : decode cX11_readsSetting 40 = .ok (.invokevirtual 268, 3) := by decide +kernel
theorem dX11_readsSetting_43 : decode cX11_readsSetting 43 = .ok (.istore_n 2, 1) := by decide +kernel
theorem dX11_readsSetting_44 : decode cX11_readsSetting 44 = .ok (.aload_n 0, 1) := by decide +kernel
theorem dX11_readsSetting_45 : decode cX11_readsSetting 45 = .ok (.getfield 9, 3) := by decide +kernel
theorem dX11_readsSetting_48 : decode cX11_readsSetting 48 = .ok (.iload_n 1, 1) := by decide +kernel
theorem dX11_readsSetting_49 : decode cX11_readsSetting 49 = .ok (.iload_n 2, 1) := by decide +kernel
theorem dX11_readsSetting_50 : decode cX11_readsSetting 50 = .ok (.iastore, 1) := by decide +kernel
theorem dX11_readsSetting_51 : decode cX11_readsSetting 51 = .ok (.return_, 1) := by decide +kernel
theorem dX11_readsStatement_0 : decode cX11_readsStatement 0 = .ok (.aload_n 0, 1) := by decide +kernel
theorem dX11_readsStatement_1 : decode cX11_readsStatement 1 = .ok (.ldc_w 283, 3) := by decide +kernel
theorem dX11_readsStatement_4 : decode cX11_readsStatement 4 = .ok (.invokevirtual 260, 3) := by decide +kernel
theorem dX11_readsStatement_7 : decode cX11_readsStatement 7 = .ok (.ifCond .eq 10, 3) := by decide +kernel
theorem dX11_readsStatement_10 : decode cX11_readsStatement 10 = .ok (.aload_n 0, 1) := by decide +kernel
theorem dX11_readsStatement_11 : decode cX11_readsStatement 11 = .ok (.invokevirtual 285, 3) := by decide +kernel
theorem dX11_readsStatement_14 : decode cX11_readsStatement 14 = .ok (.goto 24, 3) := by decide +kernel
theorem dX11_readsStatement_17 : decode cX11_readsStatement 17 = .ok (.aload_n 0, 1) := by decide +kernel
theorem dX11_readsStatement_18 : decode cX11_readsStatement 18 = .ok (.ldc_w 288, 3) := by decide +kernel
theorem dX11_readsStatement_21 : decode cX11_readsStatement 21 = .ok (.invokevirtual 260, 3) := by decide +kernel
theorem dX11_readsStatement_24 : decode cX11_readsStatement 24 = .ok (.ifCond .eq 10, 3) := by decide +kernel
theorem dX11_readsStatement_27 : decode cX11_readsStatement 27 = .ok (.aload_n 0, 1) := by decide +kernel
theorem dX11_readsStatement_28 : decode cX11_readsStatement 28 = .ok (.invokevirtual 290, 3) := by decide +kernel
theorem dX11_readsStatement_31 : decode cX11_readsStatement 31 = .ok (.goto 7, 3) := by decide +kernel
theorem dX11_readsStatement_34 : decode cX11_readsStatement 34 = .ok (.aload_n 0, 1) := by decide +kernel
theorem dX11_readsStatement_35 : decode cX11_readsStatement 35 = .ok (.invokevirtual 293, 3) := by decide +kernel
theorem dX11_readsStatement_38 : decode cX11_readsStatement 38 = .ok (.aload_n 0, 1) := by decide +kernel
theorem dX11_readsStatement_39 : decode cX11_readsStatement 39 = .ok (.invokevirtual 296, 3) := by decide +kernel
theorem dX11_readsStatement_42 : decode cX11_readsStatement 42 = .ok (.return_, 1) := by decide +kernel
theorem dX11_loadPost_0 : decode cX11_loadPost 0 = .ok (.aload_n 0, 1) := by decide +kernel
theorem dX11_loadPost_1 : decode cX11_loadPost 1 = .ok (.iconst 0, 1) := by decide +kernel
theorem dX11_loadPost_2 : decode cX11_loadPost 2 = .ok (.putfield 78, 3) := by decide +kernel
theorem dX11_loadPost_5 : decode cX11_loadPost 5 = .ok (.aload_n 0, 1) := by decide +kernel
theorem dX11_loadPost_6 : decode cX11_loadPost 6 = .ok (.aload_n 0, 1) := by decide +kernel
theorem dX11_loadPost_7 : decode cX11_loadPost 7 = .ok (.getfield 13, 3) := by decide +kernel
theorem dX11_loadPost_10 : decode cX11_loadPost 10 = .ok (.invokevirtual 299, 3) := by decide +kernel
theorem dX11_loadPost_13 : decode cX11_loadPost 13 = .ok (.aload_n 0, 1) := by decide +kernel
theorem dX11_loadPost_14 : decode cX11_loadPost 14 = .ok (.invokevirtual 52, 3) := by decide +kernel
theorem dX11_loadPost_17 : decode cX11_loadPost 17 = .ok (.aload_n 0, 1) := by decide +kernel
theorem dX11_loadPost_18 : decode cX11_loadPost 18 = .ok (.invokevirtual 303, 3) := by decide +kernel
theorem dX11_loadPost_21 : decode cX11_loadPost 21 = .ok (.aload_n 0, 1) := by decide +kernel
theorem dX11_loadPost_22 : decode cX11_loadPost 22 = .ok (.getfield 214, 3) := by decide +kernel
theorem dX11_loadPost_25 : decode cX11_loadPost 25 = .ok (.ifCond .ne 17, 3) := by decide +kernel
theorem dX11_loadPost_28 : decode cX11_loadPost 28 = .ok (.aload_n 0, 1) := by decide +kernel
theorem dX11_loadPost_29 : decode cX11_loadPost 29 = .ok (.getfield 223, 3) := by decide +kernel
theorem dX11_loadPost_32 : decode cX11_loadPost 32 = .ok (.ifCond .eq 10, 3) := by decide +kernel
theorem dX11_loadPost_35 : decode cX11_loadPost 35 = .ok (.aload_n 0, 1) := by decide +kernel
theorem dX11_loadPost_36 : decode cX11_loadPost 36 = .ok (.invokevirtual 306, 3) := by decide +kernel
theorem dX11_loadPost_39 : decode cX11_loadPost 39 = .ok (.goto (-18), 3) := by decide +kernel
theorem dX11_loadPost_42 : decode cX11_loadPost 42 = .ok (.aload_n 0, 1) := by decide +kernel
theorem dX11_loadPost_43 : decode cX11_loadPost 43 = .ok (.aload_n 0, 1) := by decide +kernel
theorem dX11_loadPost_44 : decode cX11_loadPost 44 = .ok (.getfield 9, 3) := by decide +kernel
theorem dX11_loadPost_47 : decode cX11_loadPost 47 = .ok (.iconst 0, 1) := by decide +kernel
theorem dX11_loadPost_48 : decode cX11_loadPost 48 = .ok (.iaload, 1) := by decide +kernel
theorem dX11_loadPost_49 : decode cX11_loadPost 49 = .ok (.iconst 1, 1) := by decide +kernel
theorem dX11_loadPost_50 : decode cX11_loadPost 50 = .ok (.if_icmp .le 7, 3) := by decide +kernel
theorem dX11_loadPost_53 : decode cX11_loadPost 53 = .ok (.iconst 1, 1) := by decide +kernel
theorem dX11_loadPost_54 : decode cX11_loadPost 54 = .ok (.goto 4, 3) := by decide +kernel
theorem dX11_loadPost_57 : decode cX11_loadPost 57 = .ok (.iconst 0, 1) := by decide +kernel
theorem dX11_loadPost_58 : decode cX11_loadPost 58 = .ok (.bipush 6, 2) := by decide +kernel
theorem dX11_loadPost_60 : decode cX11_loadPost 60 = .ok (.invokevirtual 242, 3) := by decide +kernel
theorem dX11_loadPost_63 : decode cX11_loadPost 63 = .ok (.aload_n 0, 1) := by decide +kernel
theorem dX11_loadPost_64 : decode cX11_loadPost 64 = .ok (.invokevirtual 309, 3) := by decide +kernel
theorem dX11_loadPost_67 : decode cX11_loadPost 67 = .ok (.aload_n 0, 1) := by decide +kernel
theorem dX11_loadPost_68 : decode cX11_loadPost 68 = .ok (.getfield 214, 3) := by decide +kernel
theorem dX11_loadPost_71 : decode cX11_loadPost 71 = .ok (.ifCond .le 13, 3) := by decide +kernel
theorem dX11_loadPost_74 : decode cX11_loadPost 74 = .ok (.aload_n 0, 1) := by decide +kernel
theorem dX11_loadPost_75 : decode cX11_loadPost 75 = .ok (.aload_n 0, 1) := by decide +kernel
theorem dX11_loadPost_76 : decode cX11_loadPost 76 = .ok (.getfield 13, 3) := by decide +kernel
theorem dX11_loadPost_79 : decode cX11_loadPost 79 = .ok (.iconst (-1), 1) := by decide +kernel
theorem dX11_loadPost_80 : decode cX11_loadPost 80 = .ok (.invokevirtual 312, 3) := by decide +kernel
theorem dX11_loadPost_83 : decode cX11_loadPost 83 = .ok (.ireturn, 1) := by decide +kernel
theorem dX11_loadPost_84 : decode cX11_loadPost 84 = .ok (.aload_n 0, 1) := by decide +kernel
theorem dX11_loadPost_85 : decode cX11_loadPost 85 = .ok (.iconst 0, 1) := by decide +kernel
theorem dX11_loadPost_86 : decode cX11_loadPost 86 = .ok (.putfield 81, 3) := by decide +kernel
theorem dX11_loadPost_89 : decode cX11_loadPost 89 = .ok (.aload_n 0, 1) := by decide +kernel
theorem dX11_loadPost_90 : decode cX11_loadPost 90 = .ok (.iconst 0, 1) := by decide +kernel
theorem dX11_loadPost_91 : decode cX11_loadPost 91 = .ok (.putfield 316, 3) := by decide +kernel
theorem dX11_loadPost_94 : decode cX11_loadPost 94 = .ok (.aload_n 0, 1) := by decide +kernel
theorem dX11_loadPost_95 : decode cX11_loadPost 95 = .ok (.getfield 9, 3) := by decide +kernel
theorem dX11_loadPost_98 : decode cX11_loadPost 98 = .ok (.iconst 1, 1) := by decide +kernel
theorem dX11_loadPost_99 : decode cX11_loadPost 99 = .ok (.iaload, 1) := by decide +kernel
theorem dX11_loadPost_100 : decode cX11_loadPost 100 = .ok (.ireturn, 1) := by decide +kernel
theorem dX11_kindHere_0 : decode cX11_kindHere 0 = .ok (.aload_n 0, 1) := by decide +kernel
theorem dX11_kindHere_1 : decode cX11_kindHere 1 = .ok (.ldc_w 320, 3) := by decide +kernel
theorem dX11_kindHere_4 : decode cX11_kindHere 4 = .ok (.invokevirtual 260, 3) := by decide +kernel
theorem dX11_kindHere_7 : decode cX11_kindHere 7 = .ok (.ifCond .eq 5, 3) := by decide +kernel
theorem dX11_kindHere_10 : decode cX11_kindHere 10 = .ok (.iconst 0, 1) := by decide +kernel
theorem dX11_kindHere_11 : decode cX11_kindHere 11 = .ok (.ireturn, 1) := by decide +kernel
theorem dX11_kindHere_12 : decode cX11_kindHere 12 = .ok (.aload_n 0, 1) := by decide +kernel
theorem dX11_kindHere_13 : decode cX11_kindHere 13 = .ok (.ldc_w 322, 3) := by decide +kernel
theorem dX11_kindHere_16 : decode cX11_kindHere 16 = .ok (.invokevirtual 260, 3) := by decide +kernel
theorem dX11_kindHere_19 : decode cX11_kindHere 19 = .ok (.ifCond .eq 5, 3) := by decide +kernel
theorem dX11_kindHere_22 : decode cX11_kindHere 22 = .ok (.iconst 1, 1) := by decide +kernel
theorem dX11_kindHere_23 : decode cX11_kindHere 23 = .ok (.ireturn, 1) := by decide +kernel
theorem dX11_kindHere_24 : decode cX11_kindHere 24 = .ok (.aload_n 0, 1) := by decide +kernel
theorem dX11_kindHere_25 : decode cX11_kindHere 25 = .ok (.ldc_w 324, 3) := by decide +kernel
theorem dX11_kindHere_28 : decode cX11_kindHere 28 = .ok (.invokevirtual 260, 3) := by decide +kernel
theorem dX11_kindHere_31 : decode cX11_kindHere 31 = .ok (.ifCond .eq 5, 3) := by decide +kernel
theorem dX11_kindHere_34 : decode cX11_kindHere 34 = .ok (.iconst 2, 1) := by decide +kernel
theorem dX11_kindHere_35 : decode cX11_kindHere 35 = .ok (.ireturn, 1) := by decide +kernel
theorem dX11_kindHere_36 : decode cX11_kindHere 36 = .ok (.aload_n 0, 1) := by decide +kernel
theorem dX11_kindHere_37 : decode cX11_kindHere 37 = .ok (.ldc_w 326, 3) := by decide +kernel
theorem dX11_kindHere_40 : decode cX11_kindHere 40 = .ok (.invokevirtual 260, 3) := by decide +kernel
theorem dX11_kindHere_43 : decode cX11_kindHere 43 = .ok (.ifCond .eq 5, 3) := by decide +kernel
theorem dX11_kindHere_46 : decode cX11_kindHere 46 = .ok (.iconst 3, 1) := by decide +kernel
theorem dX11_kindHere_47 : decode cX11_kindHere 47 = .ok (.ireturn, 1) := by decide +kernel
theorem dX11_kindHere_48 : decode cX11_kindHere 48 = .ok (.aload_n 0, 1) := by decide +kernel
theorem dX11_kindHere_49 : decode cX11_kindHere 49 = .ok (.ldc_w 328, 3) := by decide +kernel
theorem dX11_kindHere_52 : decode cX11_kindHere 52 = .ok (.invokevirtual 260, 3) := by decide +kernel
theorem dX11_kindHere_55 : decode cX11_kindHere 55 = .ok (.ifCond .eq 5, 3) := by decide +kernel
theorem dX11_kindHere_58 : decode cX11_kindHere 58 = .ok (.iconst 4, 1) := by decide +kernel
theorem dX11_kindHere_59 : decode cX11_kindHere 59 = .ok (.ireturn, 1) := by decide +kernel
theorem dX11_kindHere_60 : decode cX11_kindHere 60 = .ok (.aload_n 0, 1) := by decide +kernel
theorem dX11_kindHere_61 : decode cX11_kindHere 61 = .ok (.invokevirtual 274, 3) := by decide +kernel
theorem dX11_kindHere_64 : decode cX11_kindHere 64 = .ok (.iconst (-1), 1) := by decide +kernel
theorem dX11_kindHere_65 : decode cX11_kindHere 65 = .ok (.if_icmp .ne 7, 3) := by decide +kernel
theorem dX11_kindHere_68 : decode cX11_kindHere 68 = .ok (.iconst (-1), 1) := by decide +kernel
theorem dX11_kindHere_69 : decode cX11_kindHere 69 = .ok (.goto 4, 3) := by decide +kernel
theorem dX11_kindHere_72 : decode cX11_kindHere 72 = .ok (.iconst 5, 1) := by decide +kernel
theorem dX11_kindHere_73 : decode cX11_kindHere 73 = .ok (.ireturn, 1) := by decide +kernel
theorem dX11_readsNotes_0 : decode cX11_readsNotes 0 = .ok (.iconst 0, 1) := by decide +kernel
theorem dX11_readsNotes_1 : decode cX11_readsNotes 1 = .ok (.istore_n 2, 1) := by decide +kernel
theorem dX11_readsNotes_2 : decode cX11_readsNotes 2 = .ok (.aload_n 0, 1) := by decide +kernel
theorem dX11_readsNotes_3 : decode cX11_readsNotes 3 = .ok (.iconst 0, 1) := by decide +kernel
theorem dX11_readsNotes_4 : decode cX11_readsNotes 4 = .ok (.bipush 7, 2) := by decide +kernel
theorem dX11_readsNotes_6 : decode cX11_readsNotes 6 = .ok (.invokevirtual 246, 3) := by decide +kernel
theorem dX11_readsNotes_9 : decode cX11_readsNotes 9 = .ok (.istore_n 3, 1) := by decide +kernel
theorem dX11_readsNotes_10 : decode cX11_readsNotes 10 = .ok (.aload_n 0, 1) := by decide +kernel
theorem dX11_readsNotes_11 : decode cX11_readsNotes 11 = .ok (.iload_n 2, 1) := by decide +kernel
theorem dX11_readsNotes_12 : decode cX11_readsNotes 12 = .ok (.bipush 8, 2) := by decide +kernel
theorem dX11_readsNotes_14 : decode cX11_readsNotes 14 = .ok (.if_icmp .ge 7, 3) := by decide +kernel
theorem dX11_readsNotes_17 : decode cX11_readsNotes 17 = .ok (.iconst 1, 1) := by decide +kernel
theorem dX11_readsNotes_18 : decode cX11_readsNotes 18 = .ok (.goto 4, 3) := by decide +kernel
theorem dX11_readsNotes_21 : decode cX11_readsNotes 21 = .ok (.iconst 0, 1) := by decide +kernel
theorem dX11_readsNotes_22 : decode cX11_readsNotes 22 = .ok (.iconst 5, 1) := by decide +kernel
theorem dX11_readsNotes_23 : decode cX11_readsNotes 23 = .ok (.invokevirtual 242, 3) := by decide +kernel
theorem dX11_readsNotes_26 : decode cX11_readsNotes 26 = .ok (.aload_n 0, 1) := by decide +kernel
theorem dX11_readsNotes_27 : decode cX11_readsNotes 27 = .ok (.getfield 214, 3) := by decide +kernel
theorem dX11_readsNotes_30 : decode cX11_readsNotes 30 = .ok (.ifCond .ne 17, 3) := by decide +kernel
theorem dX11_readsNotes_33 : decode cX11_readsNotes 33 = .ok (.aload_n 0, 1) := by decide +kernel
theorem dX11_readsNotes_34 : decode cX11_readsNotes 34 = .ok (.getfield 39, 3) := by decide +kernel
theorem dX11_readsNotes_37 : decode cX11_readsNotes 37 = .ok (.iload_n 1, 1) := by decide +kernel
theorem dX11_readsNotes_38 : decode cX11_readsNotes 38 = .ok (.iconst 4, 1) := by decide +kernel
theorem dX11_readsNotes_39 : decode cX11_readsNotes 39 = .ok (.iadd, 1) := by decide +kernel
theorem dX11_readsNotes_40 : decode cX11_readsNotes 40 = .ok (.iload_n 2, 1) := by decide +kernel
theorem dX11_readsNotes_41 : decode cX11_readsNotes 41 = .ok (.iadd, 1) := by decide +kernel
theorem dX11_readsNotes_42 : decode cX11_readsNotes 42 = .ok (.iload_n 3, 1) := by decide +kernel
theorem dX11_readsNotes_43 : decode cX11_readsNotes 43 = .ok (.iastore, 1) := by decide +kernel
theorem dX11_readsNotes_44 : decode cX11_readsNotes 44 = .ok (.iinc 2 1, 3) := by decide +kernel
theorem dX11_readsNotes_47 : decode cX11_readsNotes 47 = .ok (.aload_n 0, 1) := by decide +kernel
theorem dX11_readsNotes_48 : decode cX11_readsNotes 48 = .ok (.invokevirtual 239, 3) := by decide +kernel
theorem dX11_readsNotes_51 : decode cX11_readsNotes 51 = .ok (.aload_n 0, 1) := by decide +kernel
theorem dX11_readsNotes_52 : decode cX11_readsNotes 52 = .ok (.getfield 214, 3) := by decide +kernel
theorem dX11_readsNotes_55 : decode cX11_readsNotes 55 = .ok (.ifCond .ne 11, 3) := by decide +kernel
theorem dX11_readsNotes_58 : decode cX11_readsNotes 58 = .ok (.aload_n 0, 1) := by decide +kernel
theorem dX11_readsNotes_59 : decode cX11_readsNotes 59 = .ok (.getfield 223, 3) := by decide +kernel
theorem dX11_readsNotes_62 : decode cX11_readsNotes 62 = .ok (.iconst 2, 1) := by decide +kernel
theorem dX11_readsNotes_63 : decode cX11_readsNotes 63 = .ok (.if_icmp .eq (-61), 3) := by decide +kernel
theorem dX11_readsNotes_66 : decode cX11_readsNotes 66 = .ok (.aload_n 0, 1) := by decide +kernel
theorem dX11_readsNotes_67 : decode cX11_readsNotes 67 = .ok (.getfield 39, 3) := by decide +kernel
theorem dX11_readsNotes_70 : decode cX11_readsNotes 70 = .ok (.iload_n 1, 1) := by decide +kernel
theorem dX11_readsNotes_71 : decode cX11_readsNotes 71 = .ok (.iconst 3, 1) := by decide +kernel
theorem dX11_readsNotes_72 : decode cX11_readsNotes 72 = .ok (.iadd, 1) := by decide +kernel
theorem dX11_readsNotes_73 : decode cX11_readsNotes 73 = .ok (.iload_n 2, 1) := by decide +kernel
theorem dX11_readsNotes_74 : decode cX11_readsNotes 74 = .ok (.iastore, 1) := by decide +kernel
theorem dX11_readsNotes_75 : decode cX11_readsNotes 75 = .ok (.return_, 1) := by decide +kernel
theorem dX11_readsDeed_0 : decode cX11_readsDeed 0 = .ok (.aload_n 0, 1) := by decide +kernel
theorem dX11_readsDeed_1 : decode cX11_readsDeed 1 = .ok (.invokevirtual 330, 3) := by decide +kernel
theorem dX11_readsDeed_4 : decode cX11_readsDeed 4 = .ok (.istore_n 1, 1) := by decide +kernel
theorem dX11_readsDeed_5 : decode cX11_readsDeed 5 = .ok (.aload_n 0, 1) := by decide +kernel
theorem dX11_readsDeed_6 : decode cX11_readsDeed 6 = .ok (.invokevirtual 274, 3) := by decide +kernel
theorem dX11_readsDeed_9 : decode cX11_readsDeed 9 = .ok (.istore_n 2, 1) := by decide +kernel
theorem dX11_readsDeed_10 : decode cX11_readsDeed 10 = .ok (.aload_n 0, 1) := by decide +kernel
theorem dX11_readsDeed_11 : decode cX11_readsDeed 11 = .ok (.iload_n 1, 1) := by decide +kernel
theorem dX11_readsDeed_12 : decode cX11_readsDeed 12 = .ok (.iconst (-1), 1) := by decide +kernel
theorem dX11_readsDeed_13 : decode cX11_readsDeed 13 = .ok (.if_icmp .eq 7, 3) := by decide +kernel
theorem dX11_readsDeed_16 : decode cX11_readsDeed 16 = .ok (.iconst 1, 1) := by decide +kernel
theorem dX11_readsDeed_17 : decode cX11_readsDeed 17 = .ok (.goto 4, 3) := by decide +kernel
theorem dX11_readsDeed_20 : decode cX11_readsDeed 20 = .ok (.iconst 0, 1) := by decide +kernel
theorem dX11_readsDeed_21 : decode cX11_readsDeed 21 = .ok (.iconst 1, 1) := by decide +kernel
theorem dX11_readsDeed_22 : decode cX11_readsDeed 22 = .ok (.invokevirtual 242, 3) := by decide +kernel
theorem dX11_readsDeed_25 : decode cX11_readsDeed 25 = .ok (.aload_n 0, 1) := by decide +kernel
theorem dX11_readsDeed_26 : decode cX11_readsDeed 26 = .ok (.aload_n 0, 1) := by decide +kernel
theorem dX11_readsDeed_27 : decode cX11_readsDeed 27 = .ok (.getfield 333, 3) := by decide +kernel
theorem dX11_readsDeed_30 : decode cX11_readsDeed 30 = .ok (.bipush 30, 2) := by decide +kernel
theorem dX11_readsDeed_32 : decode cX11_readsDeed 32 = .ok (.if_icmp .ge 7, 3) := by decide +kernel
theorem dX11_readsDeed_35 : decode cX11_readsDeed 35 = .ok (.iconst 1, 1) := by decide +kernel
theorem dX11_readsDeed_36 : decode cX11_readsDeed 36 = .ok (.goto 4, 3) := by decide +kernel
theorem dX11_readsDeed_39 : decode cX11_readsDeed 39 = .ok (.iconst 0, 1) := by decide +kernel
theorem dX11_readsDeed_40 : decode cX11_readsDeed 40 = .ok (.iconst 5, 1) := by decide +kernel
theorem dX11_readsDeed_41 : decode cX11_readsDeed 41 = .ok (.invokevirtual 242, 3) := by decide +kernel
theorem dX11_readsDeed_44 : decode cX11_readsDeed 44 = .ok (.aload_n 0, 1) := by decide +kernel
theorem dX11_readsDeed_45 : decode cX11_readsDeed 45 = .ok (.invokevirtual 239, 3) := by decide +kernel
theorem dX11_readsDeed_48 : decode cX11_readsDeed 48 = .ok (.aload_n 0, 1) := by decide +kernel
theorem dX11_readsDeed_49 : decode cX11_readsDeed 49 = .ok (.getfield 214, 3) := by decide +kernel
theorem dX11_readsDeed_52 : decode cX11_readsDeed 52 = .ok (.ifCond .le 4, 3) := by decide +kernel
theorem dX11_readsDeed_55 : decode cX11_readsDeed 55 = .ok (.return_, 1) := by decide +kernel
theorem dX11_readsDeed_56 : decode cX11_readsDeed 56 = .ok (.bipush 12, 2) := by decide +kernel
theorem dX11_readsDeed_58 : decode cX11_readsDeed 58 = .ok (.aload_n 0, 1) := by decide +kernel
theorem dX11_readsDeed_59 : decode cX11_readsDeed 59 = .ok (.getfield 333, 3) := by decide +kernel
theorem dX11_readsDeed_62 : decode cX11_readsDeed 62 = .ok (.imul, 1) := by decide +kernel
theorem dX11_readsDeed_63 : decode cX11_readsDeed 63 = .ok (.istore_n 3, 1) := by decide +kernel
theorem dX11_readsDeed_64 : decode cX11_readsDeed 64 = .ok (.aload_n 0, 1) := by decide +kernel
theorem dX11_readsDeed_65 : decode cX11_readsDeed 65 = .ok (.getfield 39, 3) := by decide +kernel
theorem dX11_readsDeed_68 : decode cX11_readsDeed 68 = .ok (.iload_n 3, 1) := by decide +kernel
theorem dX11_readsDeed_69 : decode cX11_readsDeed 69 = .ok (.iload_n 1, 1) := by decide +kernel
theorem dX11_readsDeed_70 : decode cX11_readsDeed 70 = .ok (.iastore, 1) := by decide +kernel
theorem dX11_readsDeed_71 : decode cX11_readsDeed 71 = .ok (.iload_n 1, 1) := by decide +kernel
theorem dX11_readsDeed_72 : decode cX11_readsDeed 72 = .ok (.tableswitch 163 0 4 #[36, 36, 77, 96, 127], 36) := by decide +kernel
theorem dX11_readsDeed_108 : decode cX11_readsDeed 108 = .ok (.aload_n 0, 1) := by decide +kernel
theorem dX11_readsDeed_109 : decode cX11_readsDeed 109 = .ok (.getfield 39, 3) := by decide +kernel
theorem dX11_readsDeed_112 : decode cX11_readsDeed 112 = .ok (.iload_n 3, 1) := by decide +kernel
theorem dX11_readsDeed_113 : decode cX11_readsDeed 113 = .ok (.iconst 1, 1) := by decide +kernel
theorem dX11_readsDeed_114 : decode cX11_readsDeed 114 = .ok (.iadd, 1) := by decide +kernel
theorem dX11_readsDeed_115 : decode cX11_readsDeed 115 = .ok (.aload_n 0, 1) := by decide +kernel
theorem dX11_readsDeed_116 : decode cX11_readsDeed 116 = .ok (.iconst (-1), 1) := by decide +kernel
theorem dX11_readsDeed_117 : decode cX11_readsDeed 117 = .ok (.invokevirtual 271, 3) := by decide +kernel
theorem dX11_readsDeed_120 : decode cX11_readsDeed 120 = .ok (.iastore, 1) := by decide +kernel
theorem dX11_readsDeed_121 : decode cX11_readsDeed 121 = .ok (.aload_n 0, 1) := by decide +kernel
theorem dX11_readsDeed_122 : decode cX11_readsDeed 122 = .ok (.getfield 39, 3) := by decide +kernel
theorem dX11_readsDeed_125 : decode cX11_readsDeed 125 = .ok (.iload_n 3, 1) := by decide +kernel
theorem dX11_readsDeed_126 : decode cX11_readsDeed 126 = .ok (.iconst 2, 1) := by decide +kernel
theorem dX11_readsDeed_127 : decode cX11_readsDeed 127 = .ok (.iadd, 1) := by decide +kernel
theorem dX11_readsDeed_128 : decode cX11_readsDeed 128 = .ok (.aload_n 0, 1) := by decide +kernel
theorem dX11_readsDeed_129 : decode cX11_readsDeed 129 = .ok (.aload_n 0, 1) := by decide +kernel
theorem dX11_readsDeed_130 : decode cX11_readsDeed 130 = .ok (.getfield 39, 3) := by decide +kernel
theorem dX11_readsDeed_133 : decode cX11_readsDeed 133 = .ok (.iload_n 3, 1) := by decide +kernel
theorem dX11_readsDeed_134 : decode cX11_readsDeed 134 = .ok (.iconst 1, 1) := by decide +kernel
theorem dX11_readsDeed_135 : decode cX11_readsDeed 135 = .ok (.iadd, 1) := by decide +kernel
theorem dX11_readsDeed_136 : decode cX11_readsDeed 136 = .ok (.iaload, 1) := by decide +kernel
theorem dX11_readsDeed_137 : decode cX11_readsDeed 137 = .ok (.invokevirtual 271, 3) := by decide +kernel
theorem dX11_readsDeed_140 : decode cX11_readsDeed 140 = .ok (.iastore, 1) := by decide +kernel
theorem dX11_readsDeed_141 : decode cX11_readsDeed 141 = .ok (.aload_n 0, 1) := by decide +kernel
theorem dX11_readsDeed_142 : decode cX11_readsDeed 142 = .ok (.iload_n 3, 1) := by decide +kernel
theorem dX11_readsDeed_143 : decode cX11_readsDeed 143 = .ok (.invokevirtual 336, 3) := by decide +kernel
theorem dX11_readsDeed_146 : decode cX11_readsDeed 146 = .ok (.goto 118, 3) := by decide +kernel
theorem dX11_readsDeed_149 : decode cX11_readsDeed 149 = .ok (.aload_n 0, 1) := by decide +kernel
theorem dX11_readsDeed_150 : decode cX11_readsDeed 150 = .ok (.getfield 39, 3) := by decide +kernel
theorem dX11_readsDeed_153 : decode cX11_readsDeed 153 = .ok (.iload_n 3, 1) := by decide +kernel
theorem dX11_readsDeed_154 : decode cX11_readsDeed 154 = .ok (.iconst 1, 1) := by decide +kernel
theorem dX11_readsDeed_155 : decode cX11_readsDeed 155 = .ok (.iadd, 1) := by decide +kernel
theorem dX11_readsDeed_156 : decode cX11_readsDeed 156 = .ok (.aload_n 0, 1) := by decide +kernel
theorem dX11_readsDeed_157 : decode cX11_readsDeed 157 = .ok (.iconst 1, 1) := by decide +kernel
theorem dX11_readsDeed_158 : decode cX11_readsDeed 158 = .ok (.sipush 200, 3) := by decide +kernel
theorem dX11_readsDeed_161 : decode cX11_readsDeed 161 = .ok (.invokevirtual 268, 3) := by decide +kernel
theorem dX11_readsDeed_164 : decode cX11_readsDeed 164 = .ok (.iastore, 1) := by decide +kernel
theorem dX11_readsDeed_165 : decode cX11_readsDeed 165 = .ok (.goto 99, 3) := by decide +kernel
theorem dX11_readsDeed_168 : decode cX11_readsDeed 168 = .ok (.aload_n 0, 1) := by decide +kernel
theorem dX11_readsDeed_169 : decode cX11_readsDeed 169 = .ok (.getfield 39, 3) := by decide +kernel
theorem dX11_readsDeed_172 : decode cX11_readsDeed 172 = .ok (.iload_n 3, 1) := by decide +kernel
theorem dX11_readsDeed_173 : decode cX11_readsDeed 173 = .ok (.iconst 1, 1) := by decide +kernel
theorem dX11_readsDeed_174 : decode cX11_readsDeed 174 = .ok (.iadd, 1) := by decide +kernel
theorem dX11_readsDeed_175 : decode cX11_readsDeed 175 = .ok (.aload_n 0, 1) := by decide +kernel
theorem dX11_readsDeed_176 : decode cX11_readsDeed 176 = .ok (.iconst (-1), 1) := by decide +kernel
theorem dX11_readsDeed_177 : decode cX11_readsDeed 177 = .ok (.invokevirtual 271, 3) := by decide +kernel
theorem dX11_readsDeed_180 : decode cX11_readsDeed 180 = .ok (.iastore, 1) := by decide +kernel
theorem dX11_readsDeed_181 : decode cX11_readsDeed 181 = .ok (.aload_n 0, 1) := by decide +kernel
theorem dX11_readsDeed_182 : decode cX11_readsDeed 182 = .ok (.getfield 39, 3) := by decide +kernel
theorem dX11_readsDeed_185 : decode cX11_readsDeed 185 = .ok (.iload_n 3, 1) := by decide +kernel
theorem dX11_readsDeed_186 : decode cX11_readsDeed 186 = .ok (.iconst 2, 1) := by decide +kernel
theorem dX11_readsDeed_187 : decode cX11_readsDeed 187 = .ok (.iadd, 1) := by decide +kernel
theorem dX11_readsDeed_188 : decode cX11_readsDeed 188 = .ok (.aload_n 0, 1) := by decide +kernel
theorem dX11_readsDeed_189 : decode cX11_readsDeed 189 = .ok (.iconst 1, 1) := by decide +kernel
theorem dX11_readsDeed_190 : decode cX11_readsDeed 190 = .ok (.bipush 99, 2) := by decide +kernel
theorem dX11_readsDeed_192 : decode cX11_readsDeed 192 = .ok (.invokevirtual 268, 3) := by decide +kernel
theorem dX11_readsDeed_195 : decode cX11_readsDeed 195 = .ok (.iastore, 1) := by decide +kernel
theorem dX11_readsDeed_196 : decode cX11_readsDeed 196 = .ok (.goto 68, 3) := by decide +kernel
theorem dX11_readsDeed_199 : decode cX11_readsDeed 199 = .ok (.aload_n 0, 1) := by decide +kernel
theorem dX11_readsDeed_200 : decode cX11_readsDeed 200 = .ok (.getfield 39, 3) := by decide +kernel
theorem dX11_readsDeed_203 : decode cX11_readsDeed 203 = .ok (.iload_n 3, 1) := by decide +kernel
theorem dX11_readsDeed_204 : decode cX11_readsDeed 204 = .ok (.iconst 1, 1) := by decide +kernel
theorem dX11_readsDeed_205 : decode cX11_readsDeed 205 = .ok (.iadd, 1) := by decide +kernel
theorem dX11_readsDeed_206 : decode cX11_readsDeed 206 = .ok (.aload_n 0, 1) := by decide +kernel
theorem dX11_readsDeed_207 : decode cX11_readsDeed 207 = .ok (.iconst (-1), 1) := by decide +kernel
theorem dX11_readsDeed_208 : decode cX11_readsDeed 208 = .ok (.invokevirtual 271, 3) := by decide +kernel
theorem dX11_readsDeed_211 : decode cX11_readsDeed 211 = .ok (.iastore, 1) := by decide +kernel
theorem dX11_readsDeed_212 : decode cX11_readsDeed 212 = .ok (.aload_n 0, 1) := by decide +kernel
theorem dX11_readsDeed_213 : decode cX11_readsDeed 213 = .ok (.getfield 39, 3) := by decide +kernel
theorem dX11_readsDeed_216 : decode cX11_readsDeed 216 = .ok (.iload_n 3, 1) := by decide +kernel
theorem dX11_readsDeed_217 : decode cX11_readsDeed 217 = .ok (.iconst 2, 1) := by decide +kernel
theorem dX11_readsDeed_218 : decode cX11_readsDeed 218 = .ok (.iadd, 1) := by decide +kernel
theorem dX11_readsDeed_219 : decode cX11_readsDeed 219 = .ok (.aload_n 0, 1) := by decide +kernel
theorem dX11_readsDeed_220 : decode cX11_readsDeed 220 = .ok (.aload_n 0, 1) := by decide +kernel
theorem dX11_readsDeed_221 : decode cX11_readsDeed 221 = .ok (.getfield 39, 3) := by decide +kernel
theorem dX11_readsDeed_224 : decode cX11_readsDeed 224 = .ok (.iload_n 3, 1) := by decide +kernel
theorem dX11_readsDeed_225 : decode cX11_readsDeed 225 = .ok (.iconst 1, 1) := by decide +kernel
theorem dX11_readsDeed_226 : decode cX11_readsDeed 226 = .ok (.iadd, 1) := by decide +kernel
theorem dX11_readsDeed_227 : decode cX11_readsDeed 227 = .ok (.iaload, 1) := by decide +kernel
theorem dX11_readsDeed_228 : decode cX11_readsDeed 228 = .ok (.invokevirtual 271, 3) := by decide +kernel
theorem dX11_readsDeed_231 : decode cX11_readsDeed 231 = .ok (.iastore, 1) := by decide +kernel
theorem dX11_readsDeed_232 : decode cX11_readsDeed 232 = .ok (.goto 32, 3) := by decide +kernel
theorem dX11_readsDeed_235 : decode cX11_readsDeed 235 = .ok (.aload_n 0, 1) := by decide +kernel
theorem dX11_readsDeed_236 : decode cX11_readsDeed 236 = .ok (.getfield 39, 3) := by decide +kernel
theorem dX11_readsDeed_239 : decode cX11_readsDeed 239 = .ok (.iload_n 3, 1) := by decide +kernel
theorem dX11_readsDeed_240 : decode cX11_readsDeed 240 = .ok (.iconst 1, 1) := by decide +kernel
theorem dX11_readsDeed_241 : decode cX11_readsDeed 241 = .ok (.iadd, 1) := by decide +kernel
theorem dX11_readsDeed_242 : decode cX11_readsDeed 242 = .ok (.iload_n 2, 1) := by decide +kernel
theorem dX11_readsDeed_243 : decode cX11_readsDeed 243 = .ok (.iastore, 1) := by decide +kernel
theorem dX11_readsDeed_244 : decode cX11_readsDeed 244 = .ok (.aload_n 0, 1) := by decide +kernel
theorem dX11_readsDeed_245 : decode cX11_readsDeed 245 = .ok (.getfield 39, 3) := by decide +kernel
theorem dX11_readsDeed_248 : decode cX11_readsDeed 248 = .ok (.iload_n 3, 1) := by decide +kernel
theorem dX11_readsDeed_249 : decode cX11_readsDeed 249 = .ok (.iconst 2, 1) := by decide +kernel
theorem dX11_readsDeed_250 : decode cX11_readsDeed 250 = .ok (.iadd, 1) := by decide +kernel
theorem dX11_readsDeed_251 : decode cX11_readsDeed 251 = .ok (.aload_n 0, 1) := by decide +kernel
theorem dX11_readsDeed_252 : decode cX11_readsDeed 252 = .ok (.iload_n 2, 1) := by decide +kernel
theorem dX11_readsDeed_253 : decode cX11_readsDeed 253 = .ok (.invokestatic 277, 3) := by decide +kernel
theorem dX11_readsDeed_256 : decode cX11_readsDeed 256 = .ok (.iload_n 2, 1) := by decide +kernel
theorem dX11_readsDeed_257 : decode cX11_readsDeed 257 = .ok (.invokestatic 280, 3) := by decide +kernel
theorem dX11_readsDeed_260 : decode cX11_readsDeed 260 = .ok (.invokevirtual 268, 3) := by decide +kernel
theorem dX11_readsDeed_263 : decode cX11_readsDeed 263 = .ok (.iastore, 1) := by decide +kernel
theorem dX11_readsDeed_264 : decode cX11_readsDeed 264 = .ok (.aload_n 0, 1) := by decide +kernel
theorem dX11_readsDeed_265 : decode cX11_readsDeed 265 = .ok (.invokevirtual 296, 3) := by decide +kernel
theorem dX11_readsDeed_268 : decode cX11_readsDeed 268 = .ok (.aload_n 0, 1) := by decide +kernel
theorem dX11_readsDeed_269 : decode cX11_readsDeed 269 = .ok (.dup, 1) := by decide +kernel
theorem dX11_readsDeed_270 : decode cX11_readsDeed 270 = .ok (.getfield 333, 3) := by decide +kernel
theorem dX11_readsDeed_273 : decode cX11_readsDeed 273 = .ok (.iconst 1, 1) := by decide +kernel
theorem dX11_readsDeed_274 : decode cX11_readsDeed 274 = .ok (.iadd, 1) := by decide +kernel
theorem dX11_readsDeed_275 : decode cX11_readsDeed 275 = .ok (.putfield 333, 3) := by decide +kernel
theorem dX11_readsDeed_278 : decode cX11_readsDeed 278 = .ok (.return_, 1) := by decide +kernel
theorem dX11_sendsDeed_0 : decode cX11_sendsDeed 0 = .ok (.aload_n 0, 1) := by decide +kernel
theorem dX11_sendsDeed_1 : decode cX11_sendsDeed 1 = .ok (.aload_n 0, 1) := by decide +kernel
theorem dX11_sendsDeed_2 : decode cX11_sendsDeed 2 = .ok (.getfield 39, 3) := by decide +kernel
theorem dX11_sendsDeed_5 : decode cX11_sendsDeed 5 = .ok (.iload_n 1, 1) := by decide +kernel
theorem dX11_sendsDeed_6 : decode cX11_sendsDeed 6 = .ok (.iconst 3, 1) := by decide +kernel
theorem dX11_sendsDeed_7 : decode cX11_sendsDeed 7 = .ok (.iadd, 1) := by decide +kernel
theorem dX11_sendsDeed_8 : decode cX11_sendsDeed 8 = .ok (.iaload, 1) := by decide +kernel
theorem dX11_sendsDeed_9 : decode cX11_sendsDeed 9 = .ok (.putfield 119, 3) := by decide +kernel
theorem dX11_sendsDeed_12 : decode cX11_sendsDeed 12 = .ok (.iconst 0, 1) := by decide +kernel
theorem dX11_sendsDeed_13 : decode cX11_sendsDeed 13 = .ok (.istore_n 2, 1) := by decide +kernel
theorem dX11_sendsDeed_14 : decode cX11_sendsDeed 14 = .ok (.iload_n 2, 1) := by decide +kernel
theorem dX11_sendsDeed_15 : decode cX11_sendsDeed 15 = .ok (.aload_n 0, 1) := by decide +kernel
theorem dX11_sendsDeed_16 : decode cX11_sendsDeed 16 = .ok (.getfield 119, 3) := by decide +kernel
theorem dX11_sendsDeed_19 : decode cX11_sendsDeed 19 = .ok (.if_icmp .ge 25, 3) := by decide +kernel
theorem dX11_sendsDeed_22 : decode cX11_sendsDeed 22 = .ok (.aload_n 0, 1) := by decide +kernel
theorem dX11_sendsDeed_23 : decode cX11_sendsDeed 23 = .ok (.getfield 28, 3) := by decide +kernel
theorem dX11_sendsDeed_26 : decode cX11_sendsDeed 26 = .ok (.iload_n 2, 1) := by decide +kernel
theorem dX11_sendsDeed_27 : decode cX11_sendsDeed 27 = .ok (.aload_n 0, 1) := by decide +kernel
theorem dX11_sendsDeed_28 : decode cX11_sendsDeed 28 = .ok (.getfield 39, 3) := by decide +kernel
theorem dX11_sendsDeed_31 : decode cX11_sendsDeed 31 = .ok (.iload_n 1, 1) := by decide +kernel
theorem dX11_sendsDeed_32 : decode cX11_sendsDeed 32 = .ok (.iconst 4, 1) := by decide +kernel
theorem dX11_sendsDeed_33 : decode cX11_sendsDeed 33 = .ok (.iadd, 1) := by decide +kernel
theorem dX11_sendsDeed_34 : decode cX11_sendsDeed 34 = .ok (.iload_n 2, 1) := by decide +kernel
theorem dX11_sendsDeed_35 : decode cX11_sendsDeed 35 = .ok (.iadd, 1) := by decide +kernel
theorem dX11_sendsDeed_36 : decode cX11_sendsDeed 36 = .ok (.iaload, 1) := by decide +kernel
theorem dX11_sendsDeed_37 : decode cX11_sendsDeed 37 = .ok (.iastore, 1) := by decide +kernel
theorem dX11_sendsDeed_38 : decode cX11_sendsDeed 38 = .ok (.iinc 2 1, 3) := by decide +kernel
theorem dX11_sendsDeed_41 : decode cX11_sendsDeed 41 = .ok (.goto (-27), 3) := by decide +kernel
theorem dX11_sendsDeed_44 : decode cX11_sendsDeed 44 = .ok (.aload_n 0, 1) := by decide +kernel
theorem dX11_sendsDeed_45 : decode cX11_sendsDeed 45 = .ok (.aload_n 0, 1) := by decide +kernel
theorem dX11_sendsDeed_46 : decode cX11_sendsDeed 46 = .ok (.getfield 39, 3) := by decide +kernel
theorem dX11_sendsDeed_49 : decode cX11_sendsDeed 49 = .ok (.iload_n 1, 1) := by decide +kernel
theorem dX11_sendsDeed_50 : decode cX11_sendsDeed 50 = .ok (.iconst 1, 1) := by decide +kernel
theorem dX11_sendsDeed_51 : decode cX11_sendsDeed 51 = .ok (.iadd, 1) := by decide +kernel
theorem dX11_sendsDeed_52 : decode cX11_sendsDeed 52 = .ok (.iaload, 1) := by decide +kernel
theorem dX11_sendsDeed_53 : decode cX11_sendsDeed 53 = .ok (.aload_n 0, 1) := by decide +kernel
theorem dX11_sendsDeed_54 : decode cX11_sendsDeed 54 = .ok (.getfield 39, 3) := by decide +kernel
theorem dX11_sendsDeed_57 : decode cX11_sendsDeed 57 = .ok (.iload_n 1, 1) := by decide +kernel
theorem dX11_sendsDeed_58 : decode cX11_sendsDeed 58 = .ok (.iconst 2, 1) := by decide +kernel
theorem dX11_sendsDeed_59 : decode cX11_sendsDeed 59 = .ok (.iadd, 1) := by decide +kernel
theorem dX11_sendsDeed_60 : decode cX11_sendsDeed 60 = .ok (.iaload, 1) := by decide +kernel
theorem dX11_sendsDeed_61 : decode cX11_sendsDeed 61 = .ok (.iconst 0, 1) := by decide +kernel
theorem dX11_sendsDeed_62 : decode cX11_sendsDeed 62 = .ok (.aload_n 0, 1) := by decide +kernel
theorem dX11_sendsDeed_63 : decode cX11_sendsDeed 63 = .ok (.getfield 39, 3) := by decide +kernel
theorem dX11_sendsDeed_66 : decode cX11_sendsDeed 66 = .ok (.iload_n 1, 1) := by decide +kernel
theorem dX11_sendsDeed_67 : decode cX11_sendsDeed 67 = .ok (.iaload, 1) := by decide +kernel
theorem dX11_sendsDeed_68 : decode cX11_sendsDeed 68 = .ok (.iconst 1, 1) := by decide +kernel
theorem dX11_sendsDeed_69 : decode cX11_sendsDeed 69 = .ok (.if_icmp .ne 7, 3) := by decide +kernel
theorem dX11_sendsDeed_72 : decode cX11_sendsDeed 72 = .ok (.iconst 1, 1) := by decide +kernel
theorem dX11_sendsDeed_73 : decode cX11_sendsDeed 73 = .ok (.goto 4, 3) := by decide +kernel
theorem dX11_sendsDeed_76 : decode cX11_sendsDeed 76 = .ok (.iconst 0, 1) := by decide +kernel
theorem dX11_sendsDeed_77 : decode cX11_sendsDeed 77 = .ok (.invokevirtual 144, 3) := by decide +kernel
theorem dX11_sendsDeed_80 : decode cX11_sendsDeed 80 = .ok (.ireturn, 1) := by decide +kernel
theorem dX11_does_0 : decode cX11_does 0 = .ok (.bipush 12, 2) := by decide +kernel
theorem dX11_does_2 : decode cX11_does 2 = .ok (.iload_n 1, 1) := by decide +kernel
theorem dX11_does_3 : decode cX11_does 3 = .ok (.imul, 1) := by decide +kernel
theorem dX11_does_4 : decode cX11_does 4 = .ok (.istore_n 2, 1) := by decide +kernel
theorem dX11_does_5 : decode cX11_does 5 = .ok (.aload_n 0, 1) := by decide +kernel
theorem dX11_does_6 : decode cX11_does 6 = .ok (.getfield 39, 3) := by decide +kernel
theorem dX11_does_9 : decode cX11_does 9 = .ok (.iload_n 2, 1) := by decide +kernel
theorem dX11_does_10 : decode cX11_does 10 = .ok (.iconst 1, 1) := by decide +kernel
theorem dX11_does_11 : decode cX11_does 11 = .ok (.iadd, 1) := by decide +kernel
theorem dX11_does_12 : decode cX11_does 12 = .ok (.iaload, 1) := by decide +kernel
theorem dX11_does_13 : decode cX11_does 13 = .ok (.istore_n 3, 1) := by decide +kernel
theorem dX11_does_14 : decode cX11_does 14 = .ok (.aload_n 0, 1) := by decide +kernel
theorem dX11_does_15 : decode cX11_does 15 = .ok (.getfield 39, 3) := by decide +kernel
theorem dX11_does_18 : decode cX11_does 18 = .ok (.iload_n 2, 1) := by decide +kernel
theorem dX11_does_19 : decode cX11_does 19 = .ok (.iconst 2, 1) := by decide +kernel
theorem dX11_does_20 : decode cX11_does 20 = .ok (.iadd, 1) := by decide +kernel
theorem dX11_does_21 : decode cX11_does 21 = .ok (.iaload, 1) := by decide +kernel
theorem dX11_does_22 : decode cX11_does 22 = .ok (.istore 4, 2) := by decide +kernel
theorem dX11_does_24 : decode cX11_does 24 = .ok (.aload_n 0, 1) := by decide +kernel
theorem dX11_does_25 : decode cX11_does 25 = .ok (.getfield 39, 3) := by decide +kernel
theorem dX11_does_28 : decode cX11_does 28 = .ok (.iload_n 2, 1) := by decide +kernel
theorem dX11_does_29 : decode cX11_does 29 = .ok (.iaload, 1) := by decide +kernel
theorem dX11_does_30 : decode cX11_does 30 = .ok (.tableswitch 155 0 4 #[34, 34, 59, 87, 124], 34) := by decide +kernel
theorem dX11_does_64 : decode cX11_does 64 = .ok (.aload_n 0, 1) := by decide +kernel
theorem dX11_does_65 : decode cX11_does 65 = .ok (.getfield 9, 3) := by decide +kernel
theorem dX11_does_68 : decode cX11_does 68 = .ok (.iconst 2, 1) := by decide +kernel
theorem dX11_does_69 : decode cX11_does 69 = .ok (.iaload, 1) := by decide +kernel
theorem dX11_does_70 : decode cX11_does 70 = .ok (.bipush 30, 2) := by decide +kernel
theorem dX11_does_72 : decode cX11_does 72 = .ok (.if_icmp .ge 15, 3) := by decide +kernel
theorem dX11_does_75 : decode cX11_does 75 = .ok (.aload_n 0, 1) := by decide +kernel
theorem dX11_does_76 : decode cX11_does 76 = .ok (.iload_n 2, 1) := by decide +kernel
theorem dX11_does_77 : decode cX11_does 77 = .ok (.invokevirtual 339, 3) := by decide +kernel
theorem dX11_does_80 : decode cX11_does 80 = .ok (.ifCond .lt 7, 3) := by decide +kernel
theorem dX11_does_83 : decode cX11_does 83 = .ok (.iconst 1, 1) := by decide +kernel
theorem dX11_does_84 : decode cX11_does 84 = .ok (.goto 4, 3) := by decide +kernel
theorem dX11_does_87 : decode cX11_does 87 = .ok (.iconst 0, 1) := by decide +kernel
theorem dX11_does_88 : decode cX11_does 88 = .ok (.ireturn, 1) := by decide +kernel
theorem dX11_does_89 : decode cX11_does 89 = .ok (.aload_n 0, 1) := by decide +kernel
theorem dX11_does_90 : decode cX11_does 90 = .ok (.getfield 9, 3) := by decide +kernel
theorem dX11_does_93 : decode cX11_does 93 = .ok (.iconst 3, 1) := by decide +kernel
theorem dX11_does_94 : decode cX11_does 94 = .ok (.iaload, 1) := by decide +kernel
theorem dX11_does_95 : decode cX11_does 95 = .ok (.iload_n 3, 1) := by decide +kernel
theorem dX11_does_96 : decode cX11_does 96 = .ok (.iadd, 1) := by decide +kernel
theorem dX11_does_97 : decode cX11_does 97 = .ok (.sipush 9999, 3) := by decide +kernel
theorem dX11_does_100 : decode cX11_does 100 = .ok (.if_icmp .gt 15, 3) := by decide +kernel
theorem dX11_does_103 : decode cX11_does 103 = .ok (.aload_n 0, 1) := by decide +kernel
theorem dX11_does_104 : decode cX11_does 104 = .ok (.iload_n 3, 1) := by decide +kernel
theorem dX11_does_105 : decode cX11_does 105 = .ok (.invokevirtual 342, 3) := by decide +kernel
theorem dX11_does_108 : decode cX11_does 108 = .ok (.ifCond .lt 7, 3) := by decide +kernel
theorem dX11_does_111 : decode cX11_does 111 = .ok (.iconst 1, 1) := by decide +kernel
theorem dX11_does_112 : decode cX11_does 112 = .ok (.goto 4, 3) := by decide +kernel
theorem dX11_does_115 : decode cX11_does 115 = .ok (.iconst 0, 1) := by decide +kernel
theorem dX11_does_116 : decode cX11_does 116 = .ok (.ireturn, 1) := by decide +kernel
theorem dX11_does_117 : decode cX11_does 117 = .ok (.aload_n 0, 1) := by decide +kernel
theorem dX11_does_118 : decode cX11_does 118 = .ok (.getfield 9, 3) := by decide +kernel
theorem dX11_does_121 : decode cX11_does 121 = .ok (.iload_n 3, 1) := by decide +kernel
theorem dX11_does_122 : decode cX11_does 122 = .ok (.invokestatic 84, 3) := by decide +kernel
theorem dX11_does_125 : decode cX11_does 125 = .ok (.bipush 10, 2) := by decide +kernel
theorem dX11_does_127 : decode cX11_does 127 = .ok (.iadd, 1) := by decide +kernel
theorem dX11_does_128 : decode cX11_does 128 = .ok (.iaload, 1) := by decide +kernel
theorem dX11_does_129 : decode cX11_does 129 = .ok (.iload 4, 2) := by decide +kernel
theorem dX11_does_131 : decode cX11_does 131 = .ok (.iadd, 1) := by decide +kernel
theorem dX11_does_132 : decode cX11_does 132 = .ok (.sipush 9999, 3) := by decide +kernel
theorem dX11_does_135 : decode cX11_does 135 = .ok (.if_icmp .gt 17, 3) := by decide +kernel
theorem dX11_does_138 : decode cX11_does 138 = .ok (.aload_n 0, 1) := by decide +kernel
theorem dX11_does_139 : decode cX11_does 139 = .ok (.iload_n 3, 1) := by decide +kernel
theorem dX11_does_140 : decode cX11_does 140 = .ok (.iload 4, 2) := by decide +kernel
theorem dX11_does_142 : decode cX11_does 142 = .ok (.invokevirtual 345, 3) := by decide +kernel
theorem dX11_does_145 : decode cX11_does 145 = .ok (.ifCond .le 7, 3) := by decide +kernel
theorem dX11_does_148 : decode cX11_does 148 = .ok (.iconst 1, 1) := by decide +kernel
theorem dX11_does_149 : decode cX11_does 149 = .ok (.goto 4, 3) := by decide +kernel
theorem dX11_does_152 : decode cX11_does 152 = .ok (.iconst 0, 1) := by decide +kernel
theorem dX11_does_153 : decode cX11_does 153 = .ok (.ireturn, 1) := by decide +kernel
theorem dX11_does_154 : decode cX11_does 154 = .ok (.aload_n 0, 1) := by decide +kernel
theorem dX11_does_155 : decode cX11_does 155 = .ok (.iload_n 3, 1) := by decide +kernel
theorem dX11_does_156 : decode cX11_does 156 = .ok (.iload 4, 2) := by decide +kernel
theorem dX11_does_158 : decode cX11_does 158 = .ok (.invokevirtual 169, 3) := by decide +kernel
theorem dX11_does_161 : decode cX11_does 161 = .ok (.iconst (-1), 1) := by decide +kernel
theorem dX11_does_162 : decode cX11_does 162 = .ok (.if_icmp .eq 21, 3) := by decide +kernel
theorem dX11_does_165 : decode cX11_does 165 = .ok (.aload_n 0, 1) := by decide +kernel
theorem dX11_does_166 : decode cX11_does 166 = .ok (.aload_n 0, 1) := by decide +kernel
theorem dX11_does_167 : decode cX11_does 167 = .ok (.iload_n 3, 1) := by decide +kernel
theorem dX11_does_168 : decode cX11_does 168 = .ok (.iload 4, 2) := by decide +kernel
theorem dX11_does_170 : decode cX11_does 170 = .ok (.invokevirtual 169, 3) := by decide +kernel
theorem dX11_does_173 : decode cX11_does 173 = .ok (.invokevirtual 348, 3) := by decide +kernel
theorem dX11_does_176 : decode cX11_does 176 = .ok (.ifCond .lt 7, 3) := by decide +kernel
theorem dX11_does_179 : decode cX11_does 179 = .ok (.iconst 1, 1) := by decide +kernel
theorem dX11_does_180 : decode cX11_does 180 = .ok (.goto 4, 3) := by decide +kernel
theorem dX11_does_183 : decode cX11_does 183 = .ok (.iconst 0, 1) := by decide +kernel
theorem dX11_does_184 : decode cX11_does 184 = .ok (.ireturn, 1) := by decide +kernel
theorem dX11_does_185 : decode cX11_does 185 = .ok (.aload_n 0, 1) := by decide +kernel
theorem dX11_does_186 : decode cX11_does 186 = .ok (.iload_n 3, 1) := by decide +kernel
theorem dX11_does_187 : decode cX11_does 187 = .ok (.iload 4, 2) := by decide +kernel
theorem dX11_does_189 : decode cX11_does 189 = .ok (.invokevirtual 351, 3) := by decide +kernel
theorem dX11_does_192 : decode cX11_does 192 = .ok (.ifCond .lt 7, 3) := by decide +kernel
theorem dX11_does_195 : decode cX11_does 195 = .ok (.iconst 1, 1) := by decide +kernel
theorem dX11_does_196 : decode cX11_does 196 = .ok (.goto 4, 3) := by decide +kernel
theorem dX11_does_199 : decode cX11_does 199 = .ok (.iconst 0, 1) := by decide +kernel
theorem dX11_does_200 : decode cX11_does 200 = .ok (.ireturn, 1) := by decide +kernel
theorem dX11_playScript_0 : decode cX11_playScript 0 = .ok (.aload_n 0, 1) := by decide +kernel
theorem dX11_playScript_1 : decode cX11_playScript 1 = .ok (.iconst 0, 1) := by decide +kernel
theorem dX11_playScript_2 : decode cX11_playScript 2 = .ok (.putfield 78, 3) := by decide +kernel
theorem dX11_playScript_5 : decode cX11_playScript 5 = .ok (.aload_n 0, 1) := by decide +kernel
theorem dX11_playScript_6 : decode cX11_playScript 6 = .ok (.iconst 0, 1) := by decide +kernel
theorem dX11_playScript_7 : decode cX11_playScript 7 = .ok (.putfield 333, 3) := by decide +kernel
theorem dX11_playScript_10 : decode cX11_playScript 10 = .ok (.aload_n 0, 1) := by decide +kernel
theorem dX11_playScript_11 : decode cX11_playScript 11 = .ok (.invokevirtual 303, 3) := by decide +kernel
theorem dX11_playScript_14 : decode cX11_playScript 14 = .ok (.aload_n 0, 1) := by decide +kernel
theorem dX11_playScript_15 : decode cX11_playScript 15 = .ok (.getfield 214, 3) := by decide +kernel
theorem dX11_playScript_18 : decode cX11_playScript 18 = .ok (.ifCond .ne 17, 3) := by decide +kernel
theorem dX11_playScript_21 : decode cX11_playScript 21 = .ok (.aload_n 0, 1) := by decide +kernel
theorem dX11_playScript_22 : decode cX11_playScript 22 = .ok (.getfield 223, 3) := by decide +kernel
theorem dX11_playScript_25 : decode cX11_playScript 25 = .ok (.ifCond .eq 10, 3) := by decide +kernel
theorem dX11_playScript_28 : decode cX11_playScript 28 = .ok (.aload_n 0, 1) := by decide +kernel
theorem dX11_playScript_29 : decode cX11_playScript 29 = .ok (.invokevirtual 354, 3) := by decide +kernel
theorem dX11_playScript_32 : decode cX11_playScript 32 = .ok (.goto (-18), 3) := by decide +kernel
theorem dX11_playScript_35 : decode cX11_playScript 35 = .ok (.aload_n 0, 1) := by decide +kernel
theorem dX11_playScript_36 : decode cX11_playScript 36 = .ok (.invokevirtual 309, 3) := by decide +kernel
theorem dX11_playScript_39 : decode cX11_playScript 39 = .ok (.aload_n 0, 1) := by decide +kernel
theorem dX11_playScript_40 : decode cX11_playScript 40 = .ok (.getfield 214, 3) := by decide +kernel
theorem dX11_playScript_43 : decode cX11_playScript 43 = .ok (.ifCond .le 5, 3) := by decide +kernel
theorem dX11_playScript_46 : decode cX11_playScript 46 = .ok (.iconst (-1), 1) := by decide +kernel
theorem dX11_playScript_47 : decode cX11_playScript 47 = .ok (.ireturn, 1) := by decide +kernel
theorem dX11_playScript_48 : decode cX11_playScript 48 = .ok (.aload_n 0, 1) := by decide +kernel
theorem dX11_playScript_49 : decode cX11_playScript 49 = .ok (.invokevirtual 357, 3) := by decide +kernel
theorem dX11_playScript_52 : decode cX11_playScript 52 = .ok (.iconst 0, 1) := by decide +kernel
theorem dX11_playScript_53 : decode cX11_playScript 53 = .ok (.istore_n 1, 1) := by decide +kernel
theorem dX11_playScript_54 : decode cX11_playScript 54 = .ok (.iload_n 1, 1) := by decide +kernel
theorem dX11_playScript_55 : decode cX11_playScript 55 = .ok (.aload_n 0, 1) := by decide +kernel
theorem dX11_playScript_56 : decode cX11_playScript 56 = .ok (.getfield 333, 3) := by decide +kernel
theorem dX11_playScript_59 : decode cX11_playScript 59 = .ok (.if_icmp .ge 17, 3) := by decide +kernel
theorem dX11_playScript_62 : decode cX11_playScript 62 = .ok (.aload_n 0, 1) := by decide +kernel
theorem dX11_playScript_63 : decode cX11_playScript 63 = .ok (.iload_n 1, 1) := by decide +kernel
theorem dX11_playScript_64 : decode cX11_playScript 64 = .ok (.invokevirtual 360, 3) := by decide +kernel
theorem dX11_playScript_67 : decode cX11_playScript 67 = .ok (.ifCond .eq 9, 3) := by decide +kernel
theorem dX11_playScript_70 : decode cX11_playScript 70 = .ok (.iinc 1 1, 3) := by decide +kernel
theorem dX11_playScript_73 : decode cX11_playScript 73 = .ok (.goto (-19), 3) := by decide +kernel
theorem dX11_playScript_76 : decode cX11_playScript 76 = .ok (.iload_n 1, 1) := by decide +kernel
theorem dX11_playScript_77 : decode cX11_playScript 77 = .ok (.ireturn, 1) := by decide +kernel
theorem dX11_those_0 : decode cX11_those 0 = .ok (.iconst 0, 1) := by decide +kernel
theorem dX11_those_1 : decode cX11_those 1 = .ok (.istore_n 2, 1) := by decide +kernel
theorem dX11_those_2 : decode cX11_those 2 = .ok (.iconst 0, 1) := by decide +kernel
theorem dX11_those_3 : decode cX11_those 3 = .ok (.istore_n 3, 1) := by decide +kernel
theorem dX11_those_4 : decode cX11_those 4 = .ok (.iload_n 3, 1) := by decide +kernel
theorem dX11_those_5 : decode cX11_those 5 = .ok (.aload_n 0, 1) := by decide +kernel
theorem dX11_those_6 : decode cX11_those 6 = .ok (.getfield 9, 3) := by decide +kernel
theorem dX11_those_9 : decode cX11_those 9 = .ok (.iconst 2, 1) := by decide +kernel
theorem dX11_those_10 : decode cX11_those 10 = .ok (.iaload, 1) := by decide +kernel
theorem dX11_those_11 : decode cX11_those 11 = .ok (.if_icmp .ge 35, 3) := by decide +kernel
theorem dX11_those_14 : decode cX11_those 14 = .ok (.iload_n 2, 1) := by decide +kernel
theorem dX11_those_15 : decode cX11_those 15 = .ok (.aload_n 0, 1) := by decide +kernel
theorem dX11_those_16 : decode cX11_those 16 = .ok (.getfield 9, 3) := by decide +kernel
theorem dX11_those_19 : decode cX11_those 19 = .ok (.iload_n 3, 1) := by decide +kernel
theorem dX11_those_20 : decode cX11_those 20 = .ok (.invokestatic 109, 3) := by decide +kernel
theorem dX11_those_23 : decode cX11_those 23 = .ok (.iconst 3, 1) := by decide +kernel
theorem dX11_those_24 : decode cX11_those 24 = .ok (.iadd, 1) := by decide +kernel
theorem dX11_those_25 : decode cX11_those 25 = .ok (.iaload, 1) := by decide +kernel
theorem dX11_those_26 : decode cX11_those 26 = .ok (.iload_n 1, 1) := by decide +kernel
theorem dX11_those_27 : decode cX11_those 27 = .ok (.if_icmp .ne 7, 3) := by decide +kernel
theorem dX11_those_30 : decode cX11_those 30 = .ok (.iconst 1, 1) := by decide +kernel
theorem dX11_those_31 : decode cX11_those 31 = .ok (.goto 4, 3) := by decide +kernel
theorem dX11_those_34 : decode cX11_those 34 = .ok (.iconst 0, 1) := by decide +kernel
theorem dX11_those_35 : decode cX11_those 35 = .ok (.invokestatic 115, 3) := by decide +kernel
theorem dX11_those_38 : decode cX11_those 38 = .ok (.iadd, 1) := by decide +kernel
theorem dX11_those_39 : decode cX11_those 39 = .ok (.istore_n 2, 1) := by decide +kernel
theorem dX11_those_40 : decode cX11_those 40 = .ok (.iinc 3 1, 3) := by decide +kernel
theorem dX11_those_43 : decode cX11_those 43 = .ok (.goto (-39), 3) := by decide +kernel
theorem dX11_those_46 : decode cX11_those 46 = .ok (.iload_n 2, 1) := by decide +kernel
theorem dX11_those_47 : decode cX11_those 47 = .ok (.ireturn, 1) := by decide +kernel
theorem dX11_busyMany_0 : decode cX11_busyMany 0 = .ok (.iconst 0, 1) := by decide +kernel
theorem dX11_busyMany_1 : decode cX11_busyMany 1 = .ok (.istore_n 1, 1) := by decide +kernel
theorem dX11_busyMany_2 : decode cX11_busyMany 2 = .ok (.iconst 0, 1) := by decide +kernel
theorem dX11_busyMany_3 : decode cX11_busyMany 3 = .ok (.istore_n 2, 1) := by decide +kernel
theorem dX11_busyMany_4 : decode cX11_busyMany 4 = .ok (.iload_n 2, 1) := by decide +kernel
theorem dX11_busyMany_5 : decode cX11_busyMany 5 = .ok (.aload_n 0, 1) := by decide +kernel
theorem dX11_busyMany_6 : decode cX11_busyMany 6 = .ok (.getfield 9, 3) := by decide +kernel
theorem dX11_busyMany_9 : decode cX11_busyMany 9 = .ok (.iconst 0, 1) := by decide +kernel
theorem dX11_busyMany_10 : decode cX11_busyMany 10 = .ok (.iaload, 1) := by decide +kernel
theorem dX11_busyMany_11 : decode cX11_busyMany 11 = .ok (.if_icmp .ge 26, 3) := by decide +kernel
theorem dX11_busyMany_14 : decode cX11_busyMany 14 = .ok (.iload_n 1, 1) := by decide +kernel
theorem dX11_busyMany_15 : decode cX11_busyMany 15 = .ok (.aload_n 0, 1) := by decide +kernel
theorem dX11_busyMany_16 : decode cX11_busyMany 16 = .ok (.iload_n 2, 1) := by decide +kernel
theorem dX11_busyMany_17 : decode cX11_busyMany 17 = .ok (.aload_n 0, 1) := by decide +kernel
theorem dX11_busyMany_18 : decode cX11_busyMany 18 = .ok (.getfield 9, 3) := by decide +kernel
theorem dX11_busyMany_21 : decode cX11_busyMany 21 = .ok (.iconst 3, 1) := by decide +kernel
theorem dX11_busyMany_22 : decode cX11_busyMany 22 = .ok (.iaload, 1) := by decide +kernel
theorem dX11_busyMany_23 : decode cX11_busyMany 23 = .ok (.invokevirtual 178, 3) := by decide +kernel
theorem dX11_busyMany_26 : decode cX11_busyMany 26 = .ok (.invokestatic 115, 3) := by decide +kernel
theorem dX11_busyMany_29 : decode cX11_busyMany 29 = .ok (.iadd, 1) := by decide +kernel
theorem dX11_busyMany_30 : decode cX11_busyMany 30 = .ok (.istore_n 1, 1) := by decide +kernel
theorem dX11_busyMany_31 : decode cX11_busyMany 31 = .ok (.iinc 2 1, 3) := by decide +kernel
theorem dX11_busyMany_34 : decode cX11_busyMany 34 = .ok (.goto (-30), 3) := by decide +kernel
theorem dX11_busyMany_37 : decode cX11_busyMany 37 = .ok (.iload_n 1, 1) := by decide +kernel
theorem dX11_busyMany_38 : decode cX11_busyMany 38 = .ok (.ireturn, 1) := by decide +kernel
theorem dX11_purses_0 : decode cX11_purses 0 = .ok (.iconst 0, 1) := by decide +kernel
theorem dX11_purses_1 : decode cX11_purses 1 = .ok (.istore_n 1, 1) := by decide +kernel
theorem dX11_purses_2 : decode cX11_purses 2 = .ok (.iconst 0, 1) := by decide +kernel
theorem dX11_purses_3 : decode cX11_purses 3 = .ok (.istore_n 2, 1) := by decide +kernel
theorem dX11_purses_4 : decode cX11_purses 4 = .ok (.iload_n 2, 1) := by decide +kernel
theorem dX11_purses_5 : decode cX11_purses 5 = .ok (.aload_n 0, 1) := by decide +kernel
theorem dX11_purses_6 : decode cX11_purses 6 = .ok (.getfield 9, 3) := by decide +kernel
theorem dX11_purses_9 : decode cX11_purses 9 = .ok (.iconst 0, 1) := by decide +kernel
theorem dX11_purses_10 : decode cX11_purses 10 = .ok (.iaload, 1) := by decide +kernel
theorem dX11_purses_11 : decode cX11_purses 11 = .ok (.if_icmp .ge 24, 3) := by decide +kernel
theorem dX11_purses_14 : decode cX11_purses 14 = .ok (.iload_n 1, 1) := by decide +kernel
theorem dX11_purses_15 : decode cX11_purses 15 = .ok (.aload_n 0, 1) := by decide +kernel
theorem dX11_purses_16 : decode cX11_purses 16 = .ok (.getfield 9, 3) := by decide +kernel
theorem dX11_purses_19 : decode cX11_purses 19 = .ok (.iload_n 2, 1) := by decide +kernel
theorem dX11_purses_20 : decode cX11_purses 20 = .ok (.invokestatic 84, 3) := by decide +kernel
theorem dX11_purses_23 : decode cX11_purses 23 = .ok (.bipush 10, 2) := by decide +kernel
theorem dX11_purses_25 : decode cX11_purses 25 = .ok (.iadd, 1) := by decide +kernel
theorem dX11_purses_26 : decode cX11_purses 26 = .ok (.iaload, 1) := by decide +kernel
theorem dX11_purses_27 : decode cX11_purses 27 = .ok (.iadd, 1) := by decide +kernel
theorem dX11_purses_28 : decode cX11_purses 28 = .ok (.istore_n 1, 1) := by decide +kernel
theorem dX11_purses_29 : decode cX11_purses 29 = .ok (.iinc 2 1, 3) := by decide +kernel
theorem dX11_purses_32 : decode cX11_purses 32 = .ok (.goto (-28), 3) := by decide +kernel
theorem dX11_purses_35 : decode cX11_purses 35 = .ok (.iload_n 1, 1) := by decide +kernel
theorem dX11_purses_36 : decode cX11_purses 36 = .ok (.ireturn, 1) := by decide +kernel
theorem dX11_count_0 : decode cX11_count 0 = .ok (.aload_n 0, 1) := by decide +kernel
theorem dX11_count_1 : decode cX11_count 1 = .ok (.iload_n 1, 1) := by decide +kernel
theorem dX11_count_2 : decode cX11_count 2 = .ok (.i2l, 1) := by decide +kernel
theorem dX11_count_3 : decode cX11_count 3 = .ok (.lconst 0, 1) := by decide +kernel
theorem dX11_count_4 : decode cX11_count 4 = .ok (.ldc2_w 363, 3) := by decide +kernel
theorem dX11_count_7 : decode cX11_count 7 = .ok (.invokestatic 199, 3) := by decide +kernel
theorem dX11_count_10 : decode cX11_count 10 = .ok (.iconst 1, 1) := by decide +kernel
theorem dX11_count_11 : decode cX11_count 11 = .ok (.iconst 1, 1) := by decide +kernel
theorem dX11_count_12 : decode cX11_count 12 = .ok (.invokevirtual 365, 3) := by decide +kernel
theorem dX11_count_15 : decode cX11_count 15 = .ok (.ifCond .ne 5, 3) := by decide +kernel
theorem dX11_count_18 : decode cX11_count 18 = .ok (.iconst 0, 1) := by decide +kernel
theorem dX11_count_19 : decode cX11_count 19 = .ok (.ireturn, 1) := by decide +kernel
theorem dX11_count_20 : decode cX11_count 20 = .ok (.iload_n 1, 1) := by decide +kernel
theorem dX11_count_21 : decode cX11_count 21 = .ok (.tableswitch 101 0 13 #[71, 71, 71, 78, 78, 78, 78, 101, 101, 101, 101, 86, 91, 96], 71) := by decide +kernel
theorem dX11_count_92 : decode cX11_count 92 = .ok (.aload_n 0, 1) := by decide +kernel
theorem dX11_count_93 : decode cX11_count 93 = .ok (.getfield 9, 3) := by decide +kernel
theorem dX11_count_96 : decode cX11_count 96 = .ok (.iload_n 1, 1) := by decide +kernel
theorem dX11_count_97 : decode cX11_count 97 = .ok (.iaload, 1) := by decide +kernel
theorem dX11_count_98 : decode cX11_count 98 = .ok (.ireturn, 1) := by decide +kernel
theorem dX11_count_99 : decode cX11_count 99 = .ok (.aload_n 0, 1) := by decide +kernel
theorem dX11_count_100 : decode cX11_count 100 = .ok (.iload_n 1, 1) := by decide +kernel
theorem dX11_count_101 : decode cX11_count 101 = .ok (.iconst 3, 1) := by decide +kernel
theorem dX11_count_102 : decode cX11_count 102 = .ok (.isub, 1) := by decide +kernel
theorem dX11_count_103 : decode cX11_count 103 = .ok (.invokevirtual 369, 3) := by decide +kernel
theorem dX11_count_106 : decode cX11_count 106 = .ok (.ireturn, 1) := by decide +kernel
theorem dX11_count_107 : decode cX11_count 107 = .ok (.aload_n 0, 1) := by decide +kernel
theorem dX11_count_108 : decode cX11_count 108 = .ok (.invokevirtual 372, 3) := by decide +kernel
theorem dX11_count_111 : decode cX11_count 111 = .ok (.ireturn, 1) := by decide +kernel
theorem dX11_count_112 : decode cX11_count 112 = .ok (.aload_n 0, 1) := by decide +kernel
theorem dX11_count_113 : decode cX11_count 113 = .ok (.invokevirtual 375, 3) := by decide +kernel
theorem dX11_count_116 : decode cX11_count 116 = .ok (.ireturn, 1) := by decide +kernel
theorem dX11_count_117 : decode cX11_count 117 = .ok (.aload_n 0, 1) := by decide +kernel
theorem dX11_count_118 : decode cX11_count 118 = .ok (.getfield 81, 3) := by decide +kernel
theorem dX11_count_121 : decode cX11_count 121 = .ok (.ireturn, 1) := by decide +kernel
theorem dX11_count_122 : decode cX11_count 122 = .ok (.aload_n 0, 1) := by decide +kernel
theorem dX11_count_123 : decode cX11_count 123 = .ok (.getfield 9, 3) := by decide +kernel
theorem dX11_count_126 : decode cX11_count 126 = .ok (.iload_n 1, 1) := by decide +kernel
theorem dX11_count_127 : decode cX11_count 127 = .ok (.iconst 4, 1) := by decide +kernel
theorem dX11_count_128 : decode cX11_count 128 = .ok (.isub, 1) := by decide +kernel
theorem dX11_count_129 : decode cX11_count 129 = .ok (.iaload, 1) := by decide +kernel
theorem dX11_count_130 : decode cX11_count 130 = .ok (.ireturn, 1) := by decide +kernel
theorem dX11_account_0 : decode cX11_account 0 = .ok (.aload_n 0, 1) := by decide +kernel
theorem dX11_account_1 : decode cX11_account 1 = .ok (.iload_n 1, 1) := by decide +kernel
theorem dX11_account_2 : decode cX11_account 2 = .ok (.i2l, 1) := by decide +kernel
theorem dX11_account_3 : decode cX11_account 3 = .ok (.lconst 0, 1) := by decide +kernel
theorem dX11_account_4 : decode cX11_account 4 = .ok (.ldc2_w 378, 3) := by decide +kernel
theorem dX11_account_7 : decode cX11_account 7 = .ok (.invokestatic 199, 3) := by decide +kernel
theorem dX11_account_10 : decode cX11_account 10 = .ok (.iconst 1, 1) := by decide +kernel
theorem dX11_account_11 : decode cX11_account 11 = .ok (.iconst 1, 1) := by decide +kernel
theorem dX11_account_12 : decode cX11_account 12 = .ok (.invokevirtual 365, 3) := by decide +kernel
theorem dX11_account_15 : decode cX11_account 15 = .ok (.ifCond .eq 15, 3) := by decide +kernel
theorem dX11_account_18 : decode cX11_account 18 = .ok (.aload_n 0, 1) := by decide +kernel
theorem dX11_account_19 : decode cX11_account 19 = .ok (.getfield 9, 3) := by decide +kernel
theorem dX11_account_22 : decode cX11_account 22 = .ok (.bipush 10, 2) := by decide +kernel
theorem dX11_account_24 : decode cX11_account 24 = .ok (.iload_n 1, 1) := by decide +kernel
theorem dX11_account_25 : decode cX11_account 25 = .ok (.iadd, 1) := by decide +kernel
theorem dX11_account_26 : decode cX11_account 26 = .ok (.iaload, 1) := by decide +kernel
theorem dX11_account_27 : decode cX11_account 27 = .ok (.goto 4, 3) := by decide +kernel
theorem dX11_account_30 : decode cX11_account 30 = .ok (.iconst 0, 1) := by decide +kernel
theorem dX11_account_31 : decode cX11_account 31 = .ok (.ireturn, 1) := by decide +kernel
theorem dX11_isRoof_0 : decode cX11_isRoof 0 = .ok (.iload_n 1, 1) := by decide +kernel
theorem dX11_isRoof_1 : decode cX11_isRoof 1 = .ok (.i2l, 1) := by decide +kernel
theorem dX11_isRoof_2 : decode cX11_isRoof 2 = .ok (.lconst 0, 1) := by decide +kernel
theorem dX11_isRoof_3 : decode cX11_isRoof 3 = .ok (.aload_n 0, 1) := by decide +kernel
theorem dX11_isRoof_4 : decode cX11_isRoof 4 = .ok (.getfield 9, 3) := by decide +kernel
theorem dX11_isRoof_7 : decode cX11_isRoof 7 = .ok (.iconst 0, 1) := by decide +kernel
theorem dX11_isRoof_8 : decode cX11_isRoof 8 = .ok (.iaload, 1) := by decide +kernel
theorem dX11_isRoof_9 : decode cX11_isRoof 9 = .ok (.iconst 1, 1) := by decide +kernel
theorem dX11_isRoof_10 : decode cX11_isRoof 10 = .ok (.isub, 1) := by decide +kernel
theorem dX11_isRoof_11 : decode cX11_isRoof 11 = .ok (.i2l, 1) := by decide +kernel
theorem dX11_isRoof_12 : decode cX11_isRoof 12 = .ok (.invokestatic 199, 3) := by decide +kernel
theorem dX11_isRoof_15 : decode cX11_isRoof 15 = .ok (.ireturn, 1) := by decide +kernel
theorem dX11_areRoofs_0 : decode cX11_areRoofs 0 = .ok (.aload_n 0, 1) := by decide +kernel
theorem dX11_areRoofs_1 : decode cX11_areRoofs 1 = .ok (.iload_n 1, 1) := by decide +kernel
theorem dX11_areRoofs_2 : decode cX11_areRoofs 2 = .ok (.invokevirtual 380, 3) := by decide +kernel
theorem dX11_areRoofs_5 : decode cX11_areRoofs 5 = .ok (.ifCond .eq 15, 3) := by decide +kernel
theorem dX11_areRoofs_8 : decode cX11_areRoofs 8 = .ok (.aload_n 0, 1) := by decide +kernel
theorem dX11_areRoofs_9 : decode cX11_areRoofs 9 = .ok (.iload_n 2, 1) := by decide +kernel
theorem dX11_areRoofs_10 : decode cX11_areRoofs 10 = .ok (.invokevirtual 380, 3) := by decide +kernel
theorem dX11_areRoofs_13 : decode cX11_areRoofs 13 = .ok (.ifCond .eq 7, 3) := by decide +kernel
theorem dX11_areRoofs_16 : decode cX11_areRoofs 16 = .ok (.iconst 1, 1) := by decide +kernel
theorem dX11_areRoofs_17 : decode cX11_areRoofs 17 = .ok (.goto 4, 3) := by decide +kernel
theorem dX11_areRoofs_20 : decode cX11_areRoofs 20 = .ok (.iconst 0, 1) := by decide +kernel
theorem dX11_areRoofs_21 : decode cX11_areRoofs 21 = .ok (.ireturn, 1) := by decide +kernel
theorem dX11_isTune_0 : decode cX11_isTune 0 = .ok (.iload_n 1, 1) := by decide +kernel
theorem dX11_isTune_1 : decode cX11_isTune 1 = .ok (.i2l, 1) := by decide +kernel
theorem dX11_isTune_2 : decode cX11_isTune 2 = .ok (.lconst 0, 1) := by decide +kernel
theorem dX11_isTune_3 : decode cX11_isTune 3 = .ok (.aload_n 0, 1) := by decide +kernel
theorem dX11_isTune_4 : decode cX11_isTune 4 = .ok (.getfield 9, 3) := by decide +kernel
theorem dX11_isTune_7 : decode cX11_isTune 7 = .ok (.iconst 2, 1) := by decide +kernel
theorem dX11_isTune_8 : decode cX11_isTune 8 = .ok (.iaload, 1) := by decide +kernel
theorem dX11_isTune_9 : decode cX11_isTune 9 = .ok (.iconst 1, 1) := by decide +kernel
theorem dX11_isTune_10 : decode cX11_isTune 10 = .ok (.isub, 1) := by decide +kernel
theorem dX11_isTune_11 : decode cX11_isTune 11 = .ok (.i2l, 1) := by decide +kernel
theorem dX11_isTune_12 : decode cX11_isTune 12 = .ok (.invokestatic 199, 3) := by decide +kernel
theorem dX11_isTune_15 : decode cX11_isTune 15 = .ok (.ireturn, 1) := by decide +kernel
theorem dX11_nameByte_0 : decode cX11_nameByte 0 = .ok (.aload_n 0, 1) := by decide +kernel
theorem dX11_nameByte_1 : decode cX11_nameByte 1 = .ok (.aload_n 0, 1) := by decide +kernel
theorem dX11_nameByte_2 : decode cX11_nameByte 2 = .ok (.iload_n 1, 1) := by decide +kernel
theorem dX11_nameByte_3 : decode cX11_nameByte 3 = .ok (.invokevirtual 380, 3) := by decide +kernel
theorem dX11_nameByte_6 : decode cX11_nameByte 6 = .ok (.iconst 1, 1) := by decide +kernel
theorem dX11_nameByte_7 : decode cX11_nameByte 7 = .ok (.iconst 1, 1) := by decide +kernel
theorem dX11_nameByte_8 : decode cX11_nameByte 8 = .ok (.invokevirtual 365, 3) := by decide +kernel
theorem dX11_nameByte_11 : decode cX11_nameByte 11 = .ok (.ifCond .ne 5, 3) := by decide +kernel
theorem dX11_nameByte_14 : decode cX11_nameByte 14 = .ok (.iconst 0, 1) := by decide +kernel
theorem dX11_nameByte_15 : decode cX11_nameByte 15 = .ok (.ireturn, 1) := by decide +kernel
theorem dX11_nameByte_16 : decode cX11_nameByte 16 = .ok (.iload_n 2, 1) := by decide +kernel
theorem dX11_nameByte_17 : decode cX11_nameByte 17 = .ok (.i2l, 1) := by decide +kernel
theorem dX11_nameByte_18 : decode cX11_nameByte 18 = .ok (.lconst 0, 1) := by decide +kernel
theorem dX11_nameByte_19 : decode cX11_nameByte 19 = .ok (.aload_n 0, 1) := by decide +kernel
theorem dX11_nameByte_20 : decode cX11_nameByte 20 = .ok (.getfield 9, 3) := by decide +kernel
theorem dX11_nameByte_23 : decode cX11_nameByte 23 = .ok (.iload_n 1, 1) := by decide +kernel
theorem dX11_nameByte_24 : decode cX11_nameByte 24 = .ok (.invokestatic 84, 3) := by decide +kernel
theorem dX11_nameByte_27 : decode cX11_nameByte 27 = .ok (.iaload, 1) := by decide +kernel
theorem dX11_nameByte_28 : decode cX11_nameByte 28 = .ok (.iconst 1, 1) := by decide +kernel
theorem dX11_nameByte_29 : decode cX11_nameByte 29 = .ok (.isub, 1) := by decide +kernel
theorem dX11_nameByte_30 : decode cX11_nameByte 30 = .ok (.i2l, 1) := by decide +kernel
theorem dX11_nameByte_31 : decode cX11_nameByte 31 = .ok (.invokestatic 199, 3) := by decide +kernel
theorem dX11_nameByte_34 : decode cX11_nameByte 34 = .ok (.ifCond .eq 19, 3) := by decide +kernel
theorem dX11_nameByte_37 : decode cX11_nameByte 37 = .ok (.aload_n 0, 1) := by decide +kernel
theorem dX11_nameByte_38 : decode cX11_nameByte 38 = .ok (.getfield 9, 3) := by decide +kernel
theorem dX11_nameByte_41 : decode cX11_nameByte 41 = .ok (.iload_n 1, 1) := by decide +kernel
theorem dX11_nameByte_42 : decode cX11_nameByte 42 = .ok (.invokestatic 84, 3) := by decide +kernel
theorem dX11_nameByte_45 : decode cX11_nameByte 45 = .ok (.iconst 1, 1) := by decide +kernel
theorem dX11_nameByte_46 : decode cX11_nameByte 46 = .ok (.iadd, 1) := by decide +kernel
theorem dX11_nameByte_47 : decode cX11_nameByte 47 = .ok (.iload_n 2, 1) := by decide +kernel
theorem dX11_nameByte_48 : decode cX11_nameByte 48 = .ok (.iadd, 1) := by decide +kernel
theorem dX11_nameByte_49 : decode cX11_nameByte 49 = .ok (.iaload, 1) := by decide +kernel
theorem dX11_nameByte_50 : decode cX11_nameByte 50 = .ok (.goto 4, 3) := by decide +kernel
theorem dX11_nameByte_53 : decode cX11_nameByte 53 = .ok (.iconst (-1), 1) := by decide +kernel
theorem dX11_nameByte_54 : decode cX11_nameByte 54 = .ok (.ireturn, 1) := by decide +kernel
theorem dX11_waitingMany_0 : decode cX11_waitingMany 0 = .ok (.iconst 0, 1) := by decide +kernel
theorem dX11_waitingMany_1 : decode cX11_waitingMany 1 = .ok (.istore_n 2, 1) := by decide +kernel
theorem dX11_waitingMany_2 : decode cX11_waitingMany 2 = .ok (.iconst 0, 1) := by decide +kernel
theorem dX11_waitingMany_3 : decode cX11_waitingMany 3 = .ok (.istore_n 3, 1) := by decide +kernel
theorem dX11_waitingMany_4 : decode cX11_waitingMany 4 = .ok (.iload_n 3, 1) := by decide +kernel
theorem dX11_waitingMany_5 : decode cX11_waitingMany 5 = .ok (.aload_n 0, 1) := by decide +kernel
theorem dX11_waitingMany_6 : decode cX11_waitingMany 6 = .ok (.getfield 9, 3) := by decide +kernel
theorem dX11_waitingMany_9 : decode cX11_waitingMany 9 = .ok (.iconst 2, 1) := by decide +kernel
theorem dX11_waitingMany_10 : decode cX11_waitingMany 10 = .ok (.iaload, 1) := by decide +kernel
theorem dX11_waitingMany_11 : decode cX11_waitingMany 11 = .ok (.if_icmp .ge 21, 3) := by decide +kernel
theorem dX11_waitingMany_14 : decode cX11_waitingMany 14 = .ok (.iload_n 2, 1) := by decide +kernel
theorem dX11_waitingMany_15 : decode cX11_waitingMany 15 = .ok (.aload_n 0, 1) := by decide +kernel
theorem dX11_waitingMany_16 : decode cX11_waitingMany 16 = .ok (.iload_n 3, 1) := by decide +kernel
theorem dX11_waitingMany_17 : decode cX11_waitingMany 17 = .ok (.iload_n 1, 1) := by decide +kernel
theorem dX11_waitingMany_18 : decode cX11_waitingMany 18 = .ok (.invokevirtual 157, 3) := by decide +kernel
theorem dX11_waitingMany_21 : decode cX11_waitingMany 21 = .ok (.invokestatic 115, 3) := by decide +kernel
theorem dX11_waitingMany_24 : decode cX11_waitingMany 24 = .ok (.iadd, 1) := by decide +kernel
theorem dX11_waitingMany_25 : decode cX11_waitingMany 25 = .ok (.istore_n 2, 1) := by decide +kernel
theorem dX11_waitingMany_26 : decode cX11_waitingMany 26 = .ok (.iinc 3 1, 3) := by decide +kernel
theorem dX11_waitingMany_29 : decode cX11_waitingMany 29 = .ok (.goto (-25), 3) := by decide +kernel
theorem dX11_waitingMany_32 : decode cX11_waitingMany 32 = .ok (.iload_n 2, 1) := by decide +kernel
theorem dX11_waitingMany_33 : decode cX11_waitingMany 33 = .ok (.ireturn, 1) := by decide +kernel
theorem dX11_waysAt_0 : decode cX11_waysAt 0 = .ok (.iconst 0, 1) := by decide +kernel
theorem dX11_waysAt_1 : decode cX11_waysAt 1 = .ok (.istore_n 2, 1) := by decide +kernel
theorem dX11_waysAt_2 : decode cX11_waysAt 2 = .ok (.iconst 0, 1) := by decide +kernel
theorem dX11_waysAt_3 : decode cX11_waysAt 3 = .ok (.istore_n 3, 1) := by decide +kernel
theorem dX11_waysAt_4 : decode cX11_waysAt 4 = .ok (.iload_n 3, 1) := by decide +kernel
theorem dX11_waysAt_5 : decode cX11_waysAt 5 = .ok (.aload_n 0, 1) := by decide +kernel
theorem dX11_waysAt_6 : decode cX11_waysAt 6 = .ok (.getfield 9, 3) := by decide +kernel
theorem dX11_waysAt_9 : decode cX11_waysAt 9 = .ok (.iconst 1, 1) := by decide +kernel
theorem dX11_waysAt_10 : decode cX11_waysAt 10 = .ok (.iaload, 1) := by decide +kernel
theorem dX11_waysAt_11 : decode cX11_waysAt 11 = .ok (.if_icmp .ge 21, 3) := by decide +kernel
theorem dX11_waysAt_14 : decode cX11_waysAt 14 = .ok (.iload_n 2, 1) := by decide +kernel
theorem dX11_waysAt_15 : decode cX11_waysAt 15 = .ok (.aload_n 0, 1) := by decide +kernel
theorem dX11_waysAt_16 : decode cX11_waysAt 16 = .ok (.iload_n 3, 1) := by decide +kernel
theorem dX11_waysAt_17 : decode cX11_waysAt 17 = .ok (.iload_n 1, 1) := by decide +kernel
theorem dX11_waysAt_18 : decode cX11_waysAt 18 = .ok (.invokevirtual 91, 3) := by decide +kernel
theorem dX11_waysAt_21 : decode cX11_waysAt 21 = .ok (.invokestatic 115, 3) := by decide +kernel
theorem dX11_waysAt_24 : decode cX11_waysAt 24 = .ok (.iadd, 1) := by decide +kernel
theorem dX11_waysAt_25 : decode cX11_waysAt 25 = .ok (.istore_n 2, 1) := by decide +kernel
theorem dX11_waysAt_26 : decode cX11_waysAt 26 = .ok (.iinc 3 1, 3) := by decide +kernel
theorem dX11_waysAt_29 : decode cX11_waysAt 29 = .ok (.goto (-25), 3) := by decide +kernel
theorem dX11_waysAt_32 : decode cX11_waysAt 32 = .ok (.iload_n 2, 1) := by decide +kernel
theorem dX11_waysAt_33 : decode cX11_waysAt 33 = .ok (.ireturn, 1) := by decide +kernel
theorem dX11_roof_0 : decode cX11_roof 0 = .ok (.aload_n 0, 1) := by decide +kernel
theorem dX11_roof_1 : decode cX11_roof 1 = .ok (.aload_n 0, 1) := by decide +kernel
theorem dX11_roof_2 : decode cX11_roof 2 = .ok (.iload_n 1, 1) := by decide +kernel
theorem dX11_roof_3 : decode cX11_roof 3 = .ok (.invokevirtual 380, 3) := by decide +kernel
theorem dX11_roof_6 : decode cX11_roof 6 = .ok (.iload_n 2, 1) := by decide +kernel
theorem dX11_roof_7 : decode cX11_roof 7 = .ok (.i2l, 1) := by decide +kernel
theorem dX11_roof_8 : decode cX11_roof 8 = .ok (.lconst 0, 1) := by decide +kernel
theorem dX11_roof_9 : decode cX11_roof 9 = .ok (.ldc2_w 383, 3) := by decide +kernel
theorem dX11_roof_12 : decode cX11_roof 12 = .ok (.invokestatic 199, 3) := by decide +kernel
theorem dX11_roof_15 : decode cX11_roof 15 = .ok (.iconst 1, 1) := by decide +kernel
theorem dX11_roof_16 : decode cX11_roof 16 = .ok (.invokevirtual 365, 3) := by decide +kernel
theorem dX11_roof_19 : decode cX11_roof 19 = .ok (.ifCond .ne 5, 3) := by decide +kernel
theorem dX11_roof_22 : decode cX11_roof 22 = .ok (.iconst 0, 1) := by decide +kernel
theorem dX11_roof_23 : decode cX11_roof 23 = .ok (.ireturn, 1) := by decide +kernel
theorem dX11_roof_24 : decode cX11_roof 24 = .ok (.iload_n 2, 1) := by decide +kernel
theorem dX11_roof_25 : decode cX11_roof 25 = .ok (.tableswitch 80 4 7 #[31, 55, 61, 67], 31) := by decide +kernel
theorem dX11_roof_56 : decode cX11_roof 56 = .ok (.iconst 0, 1) := by decide +kernel
theorem dX11_roof_57 : decode cX11_roof 57 = .ok (.aload_n 0, 1) := by decide +kernel
theorem dX11_roof_58 : decode cX11_roof 58 = .ok (.getfield 9, 3) := by decide +kernel
theorem dX11_roof_61 : decode cX11_roof 61 = .ok (.iload_n 1, 1) := by decide +kernel
theorem dX11_roof_62 : decode cX11_roof 62 = .ok (.invokestatic 84, 3) := by decide +kernel
theorem dX11_roof_65 : decode cX11_roof 65 = .ok (.bipush 11, 2) := by decide +kernel
theorem dX11_roof_67 : decode cX11_roof 67 = .ok (.iadd, 1) := by decide +kernel
theorem dX11_roof_68 : decode cX11_roof 68 = .ok (.iaload, 1) := by decide +kernel
theorem dX11_roof_69 : decode cX11_roof 69 = .ok (.aload_n 0, 1) := by decide +kernel
theorem dX11_roof_70 : decode cX11_roof 70 = .ok (.getfield 9, 3) := by decide +kernel
theorem dX11_roof_73 : decode cX11_roof 73 = .ok (.iconst 3, 1) := by decide +kernel
theorem dX11_roof_74 : decode cX11_roof 74 = .ok (.iaload, 1) := by decide +kernel
theorem dX11_roof_75 : decode cX11_roof 75 = .ok (.isub, 1) := by decide +kernel
theorem dX11_roof_76 : decode cX11_roof 76 = .ok (.invokestatic 129, 3) := by decide +kernel
theorem dX11_roof_79 : decode cX11_roof 79 = .ok (.ireturn, 1) := by decide +kernel
theorem dX11_roof_80 : decode cX11_roof 80 = .ok (.aload_n 0, 1) := by decide +kernel
theorem dX11_roof_81 : decode cX11_roof 81 = .ok (.iload_n 1, 1) := by decide +kernel
theorem dX11_roof_82 : decode cX11_roof 82 = .ok (.invokevirtual 385, 3) := by decide +kernel
theorem dX11_roof_85 : decode cX11_roof 85 = .ok (.ireturn, 1) := by decide +kernel
theorem dX11_roof_86 : decode cX11_roof 86 = .ok (.aload_n 0, 1) := by decide +kernel
theorem dX11_roof_87 : decode cX11_roof 87 = .ok (.iload_n 1, 1) := by decide +kernel
theorem dX11_roof_88 : decode cX11_roof 88 = .ok (.invokevirtual 388, 3) := by decide +kernel
theorem dX11_roof_91 : decode cX11_roof 91 = .ok (.ireturn, 1) := by decide +kernel
theorem dX11_roof_92 : decode cX11_roof 92 = .ok (.aload_n 0, 1) := by decide +kernel
theorem dX11_roof_93 : decode cX11_roof 93 = .ok (.getfield 9, 3) := by decide +kernel
theorem dX11_roof_96 : decode cX11_roof 96 = .ok (.iload_n 1, 1) := by decide +kernel
theorem dX11_roof_97 : decode cX11_roof 97 = .ok (.invokestatic 84, 3) := by decide +kernel
theorem dX11_roof_100 : decode cX11_roof 100 = .ok (.bipush 12, 2) := by decide +kernel
theorem dX11_roof_102 : decode cX11_roof 102 = .ok (.iadd, 1) := by decide +kernel
theorem dX11_roof_103 : decode cX11_roof 103 = .ok (.iaload, 1) := by decide +kernel
theorem dX11_roof_104 : decode cX11_roof 104 = .ok (.ireturn, 1) := by decide +kernel
theorem dX11_roof_105 : decode cX11_roof 105 = .ok (.aload_n 0, 1) := by decide +kernel
theorem dX11_roof_106 : decode cX11_roof 106 = .ok (.getfield 9, 3) := by decide +kernel
theorem dX11_roof_109 : decode cX11_roof 109 = .ok (.iload_n 1, 1) := by decide +kernel
theorem dX11_roof_110 : decode cX11_roof 110 = .ok (.invokestatic 84, 3) := by decide +kernel
theorem dX11_roof_113 : decode cX11_roof 113 = .ok (.bipush 7, 2) := by decide +kernel
theorem dX11_roof_115 : decode cX11_roof 115 = .ok (.iadd, 1) := by decide +kernel
theorem dX11_roof_116 : decode cX11_roof 116 = .ok (.iload_n 2, 1) := by decide +kernel
theorem dX11_roof_117 : decode cX11_roof 117 = .ok (.iadd, 1) := by decide +kernel
theorem dX11_roof_118 : decode cX11_roof 118 = .ok (.iaload, 1) := by decide +kernel
theorem dX11_roof_119 : decode cX11_roof 119 = .ok (.ireturn, 1) := by decide +kernel
theorem dX11_way_0 : decode cX11_way 0 = .ok (.aload_n 0, 1) := by decide +kernel
theorem dX11_way_1 : decode cX11_way 1 = .ok (.iload_n 1, 1) := by decide +kernel
theorem dX11_way_2 : decode cX11_way 2 = .ok (.i2l, 1) := by decide +kernel
theorem dX11_way_3 : decode cX11_way 3 = .ok (.lconst 0, 1) := by decide +kernel
theorem dX11_way_4 : decode cX11_way 4 = .ok (.aload_n 0, 1) := by decide +kernel
theorem dX11_way_5 : decode cX11_way 5 = .ok (.getfield 9, 3) := by decide +kernel
theorem dX11_way_8 : decode cX11_way 8 = .ok (.iconst 1, 1) := by decide +kernel
theorem dX11_way_9 : decode cX11_way 9 = .ok (.iaload, 1) := by decide +kernel
theorem dX11_way_10 : decode cX11_way 10 = .ok (.iconst 1, 1) := by decide +kernel
theorem dX11_way_11 : decode cX11_way 11 = .ok (.isub, 1) := by decide +kernel
theorem dX11_way_12 : decode cX11_way 12 = .ok (.i2l, 1) := by decide +kernel
theorem dX11_way_13 : decode cX11_way 13 = .ok (.invokestatic 199, 3) := by decide +kernel
theorem dX11_way_16 : decode cX11_way 16 = .ok (.iload_n 2, 1) := by decide +kernel
theorem dX11_way_17 : decode cX11_way 17 = .ok (.i2l, 1) := by decide +kernel
theorem dX11_way_18 : decode cX11_way 18 = .ok (.lconst 0, 1) := by decide +kernel
theorem dX11_way_19 : decode cX11_way 19 = .ok (.ldc2_w 391, 3) := by decide +kernel
theorem dX11_way_22 : decode cX11_way 22 = .ok (.invokestatic 199, 3) := by decide +kernel
theorem dX11_way_25 : decode cX11_way 25 = .ok (.iconst 1, 1) := by decide +kernel
theorem dX11_way_26 : decode cX11_way 26 = .ok (.invokevirtual 365, 3) := by decide +kernel
theorem dX11_way_29 : decode cX11_way 29 = .ok (.ifCond .eq 17, 3) := by decide +kernel
theorem dX11_way_32 : decode cX11_way 32 = .ok (.aload_n 0, 1) := by decide +kernel
theorem dX11_way_33 : decode cX11_way 33 = .ok (.getfield 9, 3) := by decide +kernel
theorem dX11_way_36 : decode cX11_way 36 = .ok (.iload_n 1, 1) := by decide +kernel
theorem dX11_way_37 : decode cX11_way 37 = .ok (.invokestatic 88, 3) := by decide +kernel
theorem dX11_way_40 : decode cX11_way 40 = .ok (.iload_n 2, 1) := by decide +kernel
theorem dX11_way_41 : decode cX11_way 41 = .ok (.iadd, 1) := by decide +kernel
theorem dX11_way_42 : decode cX11_way 42 = .ok (.iaload, 1) := by decide +kernel
theorem dX11_way_43 : decode cX11_way 43 = .ok (.goto 4, 3) := by decide +kernel
theorem dX11_way_46 : decode cX11_way 46 = .ok (.iconst 0, 1) := by decide +kernel
theorem dX11_way_47 : decode cX11_way 47 = .ok (.ireturn, 1) := by decide +kernel
theorem dX11_route_0 : decode cX11_route 0 = .ok (.aload_n 0, 1) := by decide +kernel
theorem dX11_route_1 : decode cX11_route 1 = .ok (.aload_n 0, 1) := by decide +kernel
theorem dX11_route_2 : decode cX11_route 2 = .ok (.iload_n 1, 1) := by decide +kernel
theorem dX11_route_3 : decode cX11_route 3 = .ok (.iload_n 2, 1) := by decide +kernel
theorem dX11_route_4 : decode cX11_route 4 = .ok (.invokevirtual 393, 3) := by decide +kernel
theorem dX11_route_7 : decode cX11_route 7 = .ok (.iconst 1, 1) := by decide +kernel
theorem dX11_route_8 : decode cX11_route 8 = .ok (.iconst 1, 1) := by decide +kernel
theorem dX11_route_9 : decode cX11_route 9 = .ok (.invokevirtual 365, 3) := by decide +kernel
theorem dX11_route_12 : decode cX11_route 12 = .ok (.ifCond .eq 12, 3) := by decide +kernel
theorem dX11_route_15 : decode cX11_route 15 = .ok (.aload_n 0, 1) := by decide +kernel
theorem dX11_route_16 : decode cX11_route 16 = .ok (.iload_n 1, 1) := by decide +kernel
theorem dX11_route_17 : decode cX11_route 17 = .ok (.iload_n 2, 1) := by decide +kernel
theorem dX11_route_18 : decode cX11_route 18 = .ok (.invokevirtual 106, 3) := by decide +kernel
theorem dX11_route_21 : decode cX11_route 21 = .ok (.goto 4, 3) := by decide +kernel
theorem dX11_route_24 : decode cX11_route 24 = .ok (.iconst 0, 1) := by decide +kernel
theorem dX11_route_25 : decode cX11_route 25 = .ok (.ireturn, 1) := by decide +kernel
theorem dX11_next_0 : decode cX11_next 0 = .ok (.aload_n 0, 1) := by decide +kernel
theorem dX11_next_1 : decode cX11_next 1 = .ok (.aload_n 0, 1) := by decide +kernel
theorem dX11_next_2 : decode cX11_next 2 = .ok (.iload_n 1, 1) := by decide +kernel
theorem dX11_next_3 : decode cX11_next 3 = .ok (.iload_n 2, 1) := by decide +kernel
theorem dX11_next_4 : decode cX11_next 4 = .ok (.invokevirtual 393, 3) := by decide +kernel
theorem dX11_next_7 : decode cX11_next 7 = .ok (.iconst 1, 1) := by decide +kernel
theorem dX11_next_8 : decode cX11_next 8 = .ok (.iconst 1, 1) := by decide +kernel
theorem dX11_next_9 : decode cX11_next 9 = .ok (.invokevirtual 365, 3) := by decide +kernel
theorem dX11_next_12 : decode cX11_next 12 = .ok (.ifCond .eq 12, 3) := by decide +kernel
theorem dX11_next_15 : decode cX11_next 15 = .ok (.aload_n 0, 1) := by decide +kernel
theorem dX11_next_16 : decode cX11_next 16 = .ok (.iload_n 1, 1) := by decide +kernel
theorem dX11_next_17 : decode cX11_next 17 = .ok (.iload_n 2, 1) := by decide +kernel
theorem dX11_next_18 : decode cX11_next 18 = .ok (.invokevirtual 166, 3) := by decide +kernel
theorem dX11_next_21 : decode cX11_next 21 = .ok (.goto 4, 3) := by decide +kernel
theorem dX11_next_24 : decode cX11_next 24 = .ok (.iconst 0, 1) := by decide +kernel
theorem dX11_next_25 : decode cX11_next 25 = .ok (.ireturn, 1) := by decide +kernel
theorem dX11_tune_0 : decode cX11_tune 0 = .ok (.aload_n 0, 1) := by decide +kernel
theorem dX11_tune_1 : decode cX11_tune 1 = .ok (.aload_n 0, 1) := by decide +kernel
theorem dX11_tune_2 : decode cX11_tune 2 = .ok (.iload_n 1, 1) := by decide +kernel
theorem dX11_tune_3 : decode cX11_tune 3 = .ok (.invokevirtual 396, 3) := by decide +kernel
theorem dX11_tune_6 : decode cX11_tune 6 = .ok (.iload_n 2, 1) := by decide +kernel
theorem dX11_tune_7 : decode cX11_tune 7 = .ok (.i2l, 1) := by decide +kernel
theorem dX11_tune_8 : decode cX11_tune 8 = .ok (.lconst 0, 1) := by decide +kernel
theorem dX11_tune_9 : decode cX11_tune 9 = .ok (.ldc2_w 399, 3) := by decide +kernel
theorem dX11_tune_12 : decode cX11_tune 12 = .ok (.invokestatic 199, 3) := by decide +kernel
theorem dX11_tune_15 : decode cX11_tune 15 = .ok (.iconst 1, 1) := by decide +kernel
theorem dX11_tune_16 : decode cX11_tune 16 = .ok (.invokevirtual 365, 3) := by decide +kernel
theorem dX11_tune_19 : decode cX11_tune 19 = .ok (.ifCond .ne 5, 3) := by decide +kernel
theorem dX11_tune_22 : decode cX11_tune 22 = .ok (.iconst 0, 1) := by decide +kernel
theorem dX11_tune_23 : decode cX11_tune 23 = .ok (.ireturn, 1) := by decide +kernel
theorem dX11_tune_24 : decode cX11_tune 24 = .ok (.iload_n 2, 1) := by decide +kernel
theorem dX11_tune_25 : decode cX11_tune 25 = .ok (.tableswitch 52 9 11 #[27, 33, 39], 27) := by decide +kernel
theorem dX11_tune_52 : decode cX11_tune 52 = .ok (.aload_n 0, 1) := by decide +kernel
theorem dX11_tune_53 : decode cX11_tune 53 = .ok (.iload_n 1, 1) := by decide +kernel
theorem dX11_tune_54 : decode cX11_tune 54 = .ok (.invokevirtual 154, 3) := by decide +kernel
theorem dX11_tune_57 : decode cX11_tune 57 = .ok (.ireturn, 1) := by decide +kernel
theorem dX11_tune_58 : decode cX11_tune 58 = .ok (.aload_n 0, 1) := by decide +kernel
theorem dX11_tune_59 : decode cX11_tune 59 = .ok (.iload_n 1, 1) := by decide +kernel
theorem dX11_tune_60 : decode cX11_tune 60 = .ok (.invokevirtual 141, 3) := by decide +kernel
theorem dX11_tune_63 : decode cX11_tune 63 = .ok (.ireturn, 1) := by decide +kernel
theorem dX11_tune_64 : decode cX11_tune 64 = .ok (.aload_n 0, 1) := by decide +kernel
theorem dX11_tune_65 : decode cX11_tune 65 = .ok (.getfield 9, 3) := by decide +kernel
theorem dX11_tune_68 : decode cX11_tune 68 = .ok (.iload_n 1, 1) := by decide +kernel
theorem dX11_tune_69 : decode cX11_tune 69 = .ok (.invokestatic 109, 3) := by decide +kernel
theorem dX11_tune_72 : decode cX11_tune 72 = .ok (.bipush 9, 2) := by decide +kernel
theorem dX11_tune_74 : decode cX11_tune 74 = .ok (.iadd, 1) := by decide +kernel
theorem dX11_tune_75 : decode cX11_tune 75 = .ok (.iaload, 1) := by decide +kernel
theorem dX11_tune_76 : decode cX11_tune 76 = .ok (.ireturn, 1) := by decide +kernel
theorem dX11_tune_77 : decode cX11_tune 77 = .ok (.aload_n 0, 1) := by decide +kernel
theorem dX11_tune_78 : decode cX11_tune 78 = .ok (.getfield 9, 3) := by decide +kernel
theorem dX11_tune_81 : decode cX11_tune 81 = .ok (.iload_n 1, 1) := by decide +kernel
theorem dX11_tune_82 : decode cX11_tune 82 = .ok (.invokestatic 109, 3) := by decide +kernel
theorem dX11_tune_85 : decode cX11_tune 85 = .ok (.iload_n 2, 1) := by decide +kernel
theorem dX11_tune_86 : decode cX11_tune 86 = .ok (.iadd, 1) := by decide +kernel
theorem dX11_tune_87 : decode cX11_tune 87 = .ok (.iaload, 1) := by decide +kernel
theorem dX11_tune_88 : decode cX11_tune 88 = .ok (.ireturn, 1) := by decide +kernel
theorem dX11_note_0 : decode cX11_note 0 = .ok (.aload_n 0, 1) := by decide +kernel
theorem dX11_note_1 : decode cX11_note 1 = .ok (.aload_n 0, 1) := by decide +kernel
theorem dX11_note_2 : decode cX11_note 2 = .ok (.iload_n 1, 1) := by decide +kernel
theorem dX11_note_3 : decode cX11_note 3 = .ok (.invokevirtual 396, 3) := by decide +kernel
theorem dX11_note_6 : decode cX11_note 6 = .ok (.iconst 1, 1) := by decide +kernel
theorem dX11_note_7 : decode cX11_note 7 = .ok (.iconst 1, 1) := by decide +kernel
theorem dX11_note_8 : decode cX11_note 8 = .ok (.invokevirtual 365, 3) := by decide +kernel
theorem dX11_note_11 : decode cX11_note 11 = .ok (.ifCond .ne 5, 3) := by decide +kernel
theorem dX11_note_14 : decode cX11_note 14 = .ok (.iconst 0, 1) := by decide +kernel
theorem dX11_note_15 : decode cX11_note 15 = .ok (.ireturn, 1) := by decide +kernel
theorem dX11_note_16 : decode cX11_note 16 = .ok (.iload_n 2, 1) := by decide +kernel
theorem dX11_note_17 : decode cX11_note 17 = .ok (.i2l, 1) := by decide +kernel
theorem dX11_note_18 : decode cX11_note 18 = .ok (.lconst 0, 1) := by decide +kernel
theorem dX11_note_19 : decode cX11_note 19 = .ok (.aload_n 0, 1) := by decide +kernel
theorem dX11_note_20 : decode cX11_note 20 = .ok (.getfield 9, 3) := by decide +kernel
theorem dX11_note_23 : decode cX11_note 23 = .ok (.iload_n 1, 1) := by decide +kernel
theorem dX11_note_24 : decode cX11_note 24 = .ok (.invokestatic 109, 3) := by decide +kernel
theorem dX11_note_27 : decode cX11_note 27 = .ok (.iconst 2, 1) := by decide +kernel
theorem dX11_note_28 : decode cX11_note 28 = .ok (.iadd, 1) := by decide +kernel
theorem dX11_note_29 : decode cX11_note 29 = .ok (.iaload, 1) := by decide +kernel
theorem dX11_note_30 : decode cX11_note 30 = .ok (.iconst 1, 1) := by decide +kernel
theorem dX11_note_31 : decode cX11_note 31 = .ok (.isub, 1) := by decide +kernel
theorem dX11_note_32 : decode cX11_note 32 = .ok (.i2l, 1) := by decide +kernel
theorem dX11_note_33 : decode cX11_note 33 = .ok (.invokestatic 199, 3) := by decide +kernel
theorem dX11_note_36 : decode cX11_note 36 = .ok (.istore 4, 2) := by decide +kernel
theorem dX11_note_38 : decode cX11_note 38 = .ok (.iload 4, 2) := by decide +kernel
theorem dX11_note_40 : decode cX11_note 40 = .ok (.ifCond .eq 29, 3) := by decide +kernel
theorem dX11_note_43 : decode cX11_note 43 = .ok (.aload_n 0, 1) := by decide +kernel
theorem dX11_note_44 : decode cX11_note 44 = .ok (.getfield 9, 3) := by decide +kernel
theorem dX11_note_47 : decode cX11_note 47 = .ok (.iload_n 1, 1) := by decide +kernel
theorem dX11_note_48 : decode cX11_note 48 = .ok (.invokestatic 109, 3) := by decide +kernel
theorem dX11_note_51 : decode cX11_note 51 = .ok (.iload_n 3, 1) := by decide +kernel
theorem dX11_note_52 : decode cX11_note 52 = .ok (.ifCond .eq 8, 3) := by decide +kernel
theorem dX11_note_55 : decode cX11_note 55 = .ok (.bipush 19, 2) := by decide +kernel
theorem dX11_note_57 : decode cX11_note 57 = .ok (.goto 5, 3) := by decide +kernel
theorem dX11_note_60 : decode cX11_note 60 = .ok (.bipush 11, 2) := by decide +kernel
theorem dX11_note_62 : decode cX11_note 62 = .ok (.iadd, 1) := by decide +kernel
theorem dX11_note_63 : decode cX11_note 63 = .ok (.iload_n 2, 1) := by decide +kernel
theorem dX11_note_64 : decode cX11_note 64 = .ok (.iadd, 1) := by decide +kernel
theorem dX11_note_65 : decode cX11_note 65 = .ok (.iaload, 1) := by decide +kernel
theorem dX11_note_66 : decode cX11_note 66 = .ok (.goto 4, 3) := by decide +kernel
theorem dX11_note_69 : decode cX11_note 69 = .ok (.iconst (-1), 1) := by decide +kernel
theorem dX11_note_70 : decode cX11_note 70 = .ok (.ireturn, 1) := by decide +kernel
theorem dX11_placeOf_0 : decode cX11_placeOf 0 = .ok (.iconst 0, 1) := by decide +kernel
theorem dX11_placeOf_1 : decode cX11_placeOf 1 = .ok (.istore_n 3, 1) := by decide +kernel
theorem dX11_placeOf_2 : decode cX11_placeOf 2 = .ok (.iconst 0, 1) := by decide +kernel
theorem dX11_placeOf_3 : decode cX11_placeOf 3 = .ok (.istore 4, 2) := by decide +kernel
theorem dX11_placeOf_5 : decode cX11_placeOf 5 = .ok (.iload 4, 2) := by decide +kernel
theorem dX11_placeOf_7 : decode cX11_placeOf 7 = .ok (.aload_n 0, 1) := by decide +kernel
theorem dX11_placeOf_8 : decode cX11_placeOf 8 = .ok (.getfield 9, 3) := by decide +kernel
theorem dX11_placeOf_11 : decode cX11_placeOf 11 = .ok (.iconst 2, 1) := by decide +kernel
theorem dX11_placeOf_12 : decode cX11_placeOf 12 = .ok (.iaload, 1) := by decide +kernel
theorem dX11_placeOf_13 : decode cX11_placeOf 13 = .ok (.if_icmp .ge 60, 3) := by decide +kernel
theorem dX11_placeOf_16 : decode cX11_placeOf 16 = .ok (.aload_n 0, 1) := by decide +kernel
theorem dX11_placeOf_17 : decode cX11_placeOf 17 = .ok (.iload 4, 2) := by decide +kernel
theorem dX11_placeOf_19 : decode cX11_placeOf 19 = .ok (.invokevirtual 154, 3) := by decide +kernel
theorem dX11_placeOf_22 : decode cX11_placeOf 22 = .ok (.aload_n 0, 1) := by decide +kernel
theorem dX11_placeOf_23 : decode cX11_placeOf 23 = .ok (.iload_n 1, 1) := by decide +kernel
theorem dX11_placeOf_24 : decode cX11_placeOf 24 = .ok (.invokevirtual 154, 3) := by decide +kernel
theorem dX11_placeOf_27 : decode cX11_placeOf 27 = .ok (.isub, 1) := by decide +kernel
theorem dX11_placeOf_28 : decode cX11_placeOf 28 = .ok (.istore 5, 2) := by decide +kernel
theorem dX11_placeOf_30 : decode cX11_placeOf 30 = .ok (.iload_n 3, 1) := by decide +kernel
theorem dX11_placeOf_31 : decode cX11_placeOf 31 = .ok (.aload_n 0, 1) := by decide +kernel
theorem dX11_placeOf_32 : decode cX11_placeOf 32 = .ok (.iload 4, 2) := by decide +kernel
theorem dX11_placeOf_34 : decode cX11_placeOf 34 = .ok (.iload_n 2, 1) := by decide +kernel
theorem dX11_placeOf_35 : decode cX11_placeOf 35 = .ok (.invokevirtual 157, 3) := by decide +kernel
theorem dX11_placeOf_38 : decode cX11_placeOf 38 = .ok (.ifCond .eq 23, 3) := by decide +kernel
theorem dX11_placeOf_41 : decode cX11_placeOf 41 = .ok (.iload 5, 2) := by decide +kernel
theorem dX11_placeOf_43 : decode cX11_placeOf 43 = .ok (.ifCond .gt 14, 3) := by decide +kernel
theorem dX11_placeOf_46 : decode cX11_placeOf 46 = .ok (.iload 5, 2) := by decide +kernel
theorem dX11_placeOf_48 : decode cX11_placeOf 48 = .ok (.ifCond .ne 13, 3) := by decide +kernel
theorem dX11_placeOf_51 : decode cX11_placeOf 51 = .ok (.iload 4, 2) := by decide +kernel
theorem dX11_placeOf_53 : decode cX11_placeOf 53 = .ok (.iload_n 1, 1) := by decide +kernel
theorem dX11_placeOf_54 : decode cX11_placeOf 54 = .ok (.if_icmp .ge 7, 3) := by decide +kernel
theorem dX11_placeOf_57 : decode cX11_placeOf 57 = .ok (.iconst 1, 1) := by decide +kernel
theorem dX11_placeOf_58 : decode cX11_placeOf 58 = .ok (.goto 4, 3) := by decide +kernel
theorem dX11_placeOf_61 : decode cX11_placeOf 61 = .ok (.iconst 0, 1) := by decide +kernel
theorem dX11_placeOf_62 : decode cX11_placeOf 62 = .ok (.invokestatic 115, 3) := by decide +kernel
theorem dX11_placeOf_65 : decode cX11_placeOf 65 = .ok (.iadd, 1) := by decide +kernel
theorem dX11_placeOf_66 : decode cX11_placeOf 66 = .ok (.istore_n 3, 1) := by decide +kernel
theorem dX11_placeOf_67 : decode cX11_placeOf 67 = .ok (.iinc 4 1, 3) := by decide +kernel
theorem dX11_placeOf_70 : decode cX11_placeOf 70 = .ok (.goto (-65), 3) := by decide +kernel
theorem dX11_placeOf_73 : decode cX11_placeOf 73 = .ok (.iload_n 3, 1) := by decide +kernel
theorem dX11_placeOf_74 : decode cX11_placeOf 74 = .ok (.ireturn, 1) := by decide +kernel
theorem dX11_waiting_0 : decode cX11_waiting 0 = .ok (.aload_n 0, 1) := by decide +kernel
theorem dX11_waiting_1 : decode cX11_waiting 1 = .ok (.aload_n 0, 1) := by decide +kernel
theorem dX11_waiting_2 : decode cX11_waiting 2 = .ok (.iload_n 1, 1) := by decide +kernel
theorem dX11_waiting_3 : decode cX11_waiting 3 = .ok (.invokevirtual 380, 3) := by decide +kernel
theorem dX11_waiting_6 : decode cX11_waiting 6 = .ok (.iconst 1, 1) := by decide +kernel
theorem dX11_waiting_7 : decode cX11_waiting 7 = .ok (.iconst 1, 1) := by decide +kernel
theorem dX11_waiting_8 : decode cX11_waiting 8 = .ok (.invokevirtual 365, 3) := by decide +kernel
theorem dX11_waiting_11 : decode cX11_waiting 11 = .ok (.ifCond .ne 5, 3) := by decide +kernel
theorem dX11_waiting_14 : decode cX11_waiting 14 = .ok (.iconst 0, 1) := by decide +kernel
theorem dX11_waiting_15 : decode cX11_waiting 15 = .ok (.ireturn, 1) := by decide +kernel
theorem dX11_waiting_16 : decode cX11_waiting 16 = .ok (.iconst 0, 1) := by decide +kernel
theorem dX11_waiting_17 : decode cX11_waiting 17 = .ok (.istore_n 3, 1) := by decide +kernel
theorem dX11_waiting_18 : decode cX11_waiting 18 = .ok (.iload_n 3, 1) := by decide +kernel
theorem dX11_waiting_19 : decode cX11_waiting 19 = .ok (.aload_n 0, 1) := by decide +kernel
theorem dX11_waiting_20 : decode cX11_waiting 20 = .ok (.getfield 9, 3) := by decide +kernel
theorem dX11_waiting_23 : decode cX11_waiting 23 = .ok (.iconst 2, 1) := by decide +kernel
theorem dX11_waiting_24 : decode cX11_waiting 24 = .ok (.iaload, 1) := by decide +kernel
theorem dX11_waiting_25 : decode cX11_waiting 25 = .ok (.if_icmp .ge 30, 3) := by decide +kernel
theorem dX11_waiting_28 : decode cX11_waiting 28 = .ok (.aload_n 0, 1) := by decide +kernel
theorem dX11_waiting_29 : decode cX11_waiting 29 = .ok (.iload_n 3, 1) := by decide +kernel
theorem dX11_waiting_30 : decode cX11_waiting 30 = .ok (.iload_n 1, 1) := by decide +kernel
theorem dX11_waiting_31 : decode cX11_waiting 31 = .ok (.invokevirtual 157, 3) := by decide +kernel
theorem dX11_waiting_34 : decode cX11_waiting 34 = .ok (.ifCond .eq 15, 3) := by decide +kernel
theorem dX11_waiting_37 : decode cX11_waiting 37 = .ok (.aload_n 0, 1) := by decide +kernel
theorem dX11_waiting_38 : decode cX11_waiting 38 = .ok (.iload_n 3, 1) := by decide +kernel
theorem dX11_waiting_39 : decode cX11_waiting 39 = .ok (.iload_n 1, 1) := by decide +kernel
theorem dX11_waiting_40 : decode cX11_waiting 40 = .ok (.invokevirtual 401, 3) := by decide +kernel
theorem dX11_waiting_43 : decode cX11_waiting 43 = .ok (.iload_n 2, 1) := by decide +kernel
theorem dX11_waiting_44 : decode cX11_waiting 44 = .ok (.if_icmp .ne 5, 3) := by decide +kernel
theorem dX11_waiting_47 : decode cX11_waiting 47 = .ok (.iload_n 3, 1) := by decide +kernel
theorem dX11_waiting_48 : decode cX11_waiting 48 = .ok (.ireturn, 1) := by decide +kernel
theorem dX11_waiting_49 : decode cX11_waiting 49 = .ok (.iinc 3 1, 3) := by decide +kernel
theorem dX11_waiting_52 : decode cX11_waiting 52 = .ok (.goto (-34), 3) := by decide +kernel
theorem dX11_waiting_55 : decode cX11_waiting 55 = .ok (.iconst (-1), 1) := by decide +kernel
theorem dX11_waiting_56 : decode cX11_waiting 56 = .ok (.ireturn, 1) := by decide +kernel
theorem dX11_reason_0 : decode cX11_reason 0 = .ok (.iload_n 1, 1) := by decide +kernel
theorem dX11_reason_1 : decode cX11_reason 1 = .ok (.invokestatic 109, 3) := by decide +kernel
theorem dX11_reason_4 : decode cX11_reason 4 = .ok (.istore_n 2, 1) := by decide +kernel
theorem dX11_reason_5 : decode cX11_reason 5 = .ok (.aload_n 0, 1) := by decide +kernel
theorem dX11_reason_6 : decode cX11_reason 6 = .ok (.getfield 9, 3) := by decide +kernel
theorem dX11_reason_9 : decode cX11_reason 9 = .ok (.iload_n 2, 1) := by decide +kernel
theorem dX11_reason_10 : decode cX11_reason 10 = .ok (.iconst 4, 1) := by decide +kernel
theorem dX11_reason_11 : decode cX11_reason 11 = .ok (.iadd, 1) := by decide +kernel
theorem dX11_reason_12 : decode cX11_reason 12 = .ok (.iaload, 1) := by decide +kernel
theorem dX11_reason_13 : decode cX11_reason 13 = .ok (.istore_n 3, 1) := by decide +kernel
theorem dX11_reason_14 : decode cX11_reason 14 = .ok (.aload_n 0, 1) := by decide +kernel
theorem dX11_reason_15 : decode cX11_reason 15 = .ok (.getfield 9, 3) := by decide +kernel
theorem dX11_reason_18 : decode cX11_reason 18 = .ok (.iload_n 2, 1) := by decide +kernel
theorem dX11_reason_19 : decode cX11_reason 19 = .ok (.iconst 3, 1) := by decide +kernel
theorem dX11_reason_20 : decode cX11_reason 20 = .ok (.iadd, 1) := by decide +kernel
theorem dX11_reason_21 : decode cX11_reason 21 = .ok (.iaload, 1) := by decide +kernel
theorem dX11_reason_22 : decode cX11_reason 22 = .ok (.ifCond .eq 5, 3) := by decide +kernel
theorem dX11_reason_25 : decode cX11_reason 25 = .ok (.iconst 1, 1) := by decide +kernel
theorem dX11_reason_26 : decode cX11_reason 26 = .ok (.ireturn, 1) := by decide +kernel
theorem dX11_reason_27 : decode cX11_reason 27 = .ok (.aload_n 0, 1) := by decide +kernel
theorem dX11_reason_28 : decode cX11_reason 28 = .ok (.iload_n 3, 1) := by decide +kernel
theorem dX11_reason_29 : decode cX11_reason 29 = .ok (.aload_n 0, 1) := by decide +kernel
theorem dX11_reason_30 : decode cX11_reason 30 = .ok (.getfield 9, 3) := by decide +kernel
theorem dX11_reason_33 : decode cX11_reason 33 = .ok (.iload_n 2, 1) := by decide +kernel
theorem dX11_reason_34 : decode cX11_reason 34 = .ok (.iconst 1, 1) := by decide +kernel
theorem dX11_reason_35 : decode cX11_reason 35 = .ok (.iadd, 1) := by decide +kernel
theorem dX11_reason_36 : decode cX11_reason 36 = .ok (.iaload, 1) := by decide +kernel
theorem dX11_reason_37 : decode cX11_reason 37 = .ok (.invokevirtual 106, 3) := by decide +kernel
theorem dX11_reason_40 : decode cX11_reason 40 = .ok (.iconst (-1), 1) := by decide +kernel
theorem dX11_reason_41 : decode cX11_reason 41 = .ok (.if_icmp .ne 5, 3) := by decide +kernel
theorem dX11_reason_44 : decode cX11_reason 44 = .ok (.iconst 2, 1) := by decide +kernel
theorem dX11_reason_45 : decode cX11_reason 45 = .ok (.ireturn, 1) := by decide +kernel
theorem dX11_reason_46 : decode cX11_reason 46 = .ok (.aload_n 0, 1) := by decide +kernel
theorem dX11_reason_47 : decode cX11_reason 47 = .ok (.getfield 9, 3) := by decide +kernel
theorem dX11_reason_50 : decode cX11_reason 50 = .ok (.iconst 3, 1) := by decide +kernel
theorem dX11_reason_51 : decode cX11_reason 51 = .ok (.iaload, 1) := by decide +kernel
theorem dX11_reason_52 : decode cX11_reason 52 = .ok (.iconst 1, 1) := by decide +kernel
theorem dX11_reason_53 : decode cX11_reason 53 = .ok (.iadd, 1) := by decide +kernel
theorem dX11_reason_54 : decode cX11_reason 54 = .ok (.bipush 60, 2) := by decide +kernel
theorem dX11_reason_56 : decode cX11_reason 56 = .ok (.irem, 1) := by decide +kernel
theorem dX11_reason_57 : decode cX11_reason 57 = .ok (.aload_n 0, 1) := by decide +kernel
theorem dX11_reason_58 : decode cX11_reason 58 = .ok (.getfield 9, 3) := by decide +kernel
theorem dX11_reason_61 : decode cX11_reason 61 = .ok (.iconst 5, 1) := by decide +kernel
theorem dX11_reason_62 : decode cX11_reason 62 = .ok (.iaload, 1) := by decide +kernel
theorem dX11_reason_63 : decode cX11_reason 63 = .ok (.if_icmp .lt 5, 3) := by decide +kernel
theorem dX11_reason_66 : decode cX11_reason 66 = .ok (.iconst 3, 1) := by decide +kernel
theorem dX11_reason_67 : decode cX11_reason 67 = .ok (.ireturn, 1) := by decide +kernel
theorem dX11_reason_68 : decode cX11_reason 68 = .ok (.aload_n 0, 1) := by decide +kernel
theorem dX11_reason_69 : decode cX11_reason 69 = .ok (.iload_n 3, 1) := by decide +kernel
theorem dX11_reason_70 : decode cX11_reason 70 = .ok (.aload_n 0, 1) := by decide +kernel
theorem dX11_reason_71 : decode cX11_reason 71 = .ok (.getfield 9, 3) := by decide +kernel
theorem dX11_reason_74 : decode cX11_reason 74 = .ok (.iconst 3, 1) := by decide +kernel
theorem dX11_reason_75 : decode cX11_reason 75 = .ok (.iaload, 1) := by decide +kernel
theorem dX11_reason_76 : decode cX11_reason 76 = .ok (.iconst 1, 1) := by decide +kernel
theorem dX11_reason_77 : decode cX11_reason 77 = .ok (.iadd, 1) := by decide +kernel
theorem dX11_reason_78 : decode cX11_reason 78 = .ok (.invokevirtual 178, 3) := by decide +kernel
theorem dX11_reason_81 : decode cX11_reason 81 = .ok (.ifCond .eq 5, 3) := by decide +kernel
theorem dX11_reason_84 : decode cX11_reason 84 = .ok (.iconst 4, 1) := by decide +kernel
theorem dX11_reason_85 : decode cX11_reason 85 = .ok (.ireturn, 1) := by decide +kernel
theorem dX11_reason_86 : decode cX11_reason 86 = .ok (.aload_n 0, 1) := by decide +kernel
theorem dX11_reason_87 : decode cX11_reason 87 = .ok (.iload_n 1, 1) := by decide +kernel
theorem dX11_reason_88 : decode cX11_reason 88 = .ok (.invokevirtual 160, 3) := by decide +kernel
theorem dX11_reason_91 : decode cX11_reason 91 = .ok (.aload_n 0, 1) := by decide +kernel
theorem dX11_reason_92 : decode cX11_reason 92 = .ok (.iload_n 1, 1) := by decide +kernel
theorem dX11_reason_93 : decode cX11_reason 93 = .ok (.iload_n 3, 1) := by decide +kernel
theorem dX11_reason_94 : decode cX11_reason 94 = .ok (.invokevirtual 163, 3) := by decide +kernel
theorem dX11_reason_97 : decode cX11_reason 97 = .ok (.if_icmp .ge 5, 3) := by decide +kernel
theorem dX11_reason_100 : decode cX11_reason 100 = .ok (.iconst 5, 1) := by decide +kernel
theorem dX11_reason_101 : decode cX11_reason 101 = .ok (.ireturn, 1) := by decide +kernel
theorem dX11_reason_102 : decode cX11_reason 102 = .ok (.aload_n 0, 1) := by decide +kernel
theorem dX11_reason_103 : decode cX11_reason 103 = .ok (.iload_n 3, 1) := by decide +kernel
theorem dX11_reason_104 : decode cX11_reason 104 = .ok (.invokevirtual 181, 3) := by decide +kernel
theorem dX11_reason_107 : decode cX11_reason 107 = .ok (.iload_n 1, 1) := by decide +kernel
theorem dX11_reason_108 : decode cX11_reason 108 = .ok (.if_icmp .ne 7, 3) := by decide +kernel
theorem dX11_reason_111 : decode cX11_reason 111 = .ok (.iconst 0, 1) := by decide +kernel
theorem dX11_reason_112 : decode cX11_reason 112 = .ok (.goto 5, 3) := by decide +kernel
theorem dX11_reason_115 : decode cX11_reason 115 = .ok (.bipush 6, 2) := by decide +kernel
theorem dX11_reason_117 : decode cX11_reason 117 = .ok (.ireturn, 1) := by decide +kernel
theorem dX11_cause_0 : decode cX11_cause 0 = .ok (.iload_n 1, 1) := by decide +kernel
theorem dX11_cause_1 : decode cX11_cause 1 = .ok (.invokestatic 109, 3) := by decide +kernel
theorem dX11_cause_4 : decode cX11_cause 4 = .ok (.istore_n 3, 1) := by decide +kernel
theorem dX11_cause_5 : decode cX11_cause 5 = .ok (.aload_n 0, 1) := by decide +kernel
theorem dX11_cause_6 : decode cX11_cause 6 = .ok (.getfield 9, 3) := by decide +kernel
theorem dX11_cause_9 : decode cX11_cause 9 = .ok (.iload_n 3, 1) := by decide +kernel
theorem dX11_cause_10 : decode cX11_cause 10 = .ok (.iconst 4, 1) := by decide +kernel
theorem dX11_cause_11 : decode cX11_cause 11 = .ok (.iadd, 1) := by decide +kernel
theorem dX11_cause_12 : decode cX11_cause 12 = .ok (.iaload, 1) := by decide +kernel
theorem dX11_cause_13 : decode cX11_cause 13 = .ok (.istore 4, 2) := by decide +kernel
theorem dX11_cause_15 : decode cX11_cause 15 = .ok (.iload_n 2, 1) := by decide +kernel
theorem dX11_cause_16 : decode cX11_cause 16 = .ok (.tableswitch 137 1 6 #[40, 52, 65, 81, 108, 126], 40) := by decide +kernel
theorem dX11_cause_56 : decode cX11_cause 56 = .ok (.bipush 100, 2) := by decide +kernel
theorem dX11_cause_58 : decode cX11_cause 58 = .ok (.aload_n 0, 1) := by decide +kernel
theorem dX11_cause_59 : decode cX11_cause 59 = .ok (.getfield 9, 3) := by decide +kernel
theorem dX11_cause_62 : decode cX11_cause 62 = .ok (.iload_n 3, 1) := by decide +kernel
theorem dX11_cause_63 : decode cX11_cause 63 = .ok (.iconst 3, 1) := by decide +kernel
theorem dX11_cause_64 : decode cX11_cause 64 = .ok (.iadd, 1) := by decide +kernel
theorem dX11_cause_65 : decode cX11_cause 65 = .ok (.iaload, 1) := by decide +kernel
theorem dX11_cause_66 : decode cX11_cause 66 = .ok (.iadd, 1) := by decide +kernel
theorem dX11_cause_67 : decode cX11_cause 67 = .ok (.ireturn, 1) := by decide +kernel
theorem dX11_cause_68 : decode cX11_cause 68 = .ok (.sipush 200, 3) := by decide +kernel
theorem dX11_cause_71 : decode cX11_cause 71 = .ok (.aload_n 0, 1) := by decide +kernel
theorem dX11_cause_72 : decode cX11_cause 72 = .ok (.getfield 9, 3) := by decide +kernel
theorem dX11_cause_75 : decode cX11_cause 75 = .ok (.iload_n 3, 1) := by decide +kernel
theorem dX11_cause_76 : decode cX11_cause 76 = .ok (.iconst 1, 1) := by decide +kernel
theorem dX11_cause_77 : decode cX11_cause 77 = .ok (.iadd, 1) := by decide +kernel
theorem dX11_cause_78 : decode cX11_cause 78 = .ok (.iaload, 1) := by decide +kernel
theorem dX11_cause_79 : decode cX11_cause 79 = .ok (.iadd, 1) := by decide +kernel
theorem dX11_cause_80 : decode cX11_cause 80 = .ok (.ireturn, 1) := by decide +kernel
theorem dX11_cause_81 : decode cX11_cause 81 = .ok (.sipush 300, 3) := by decide +kernel
theorem dX11_cause_84 : decode cX11_cause 84 = .ok (.aload_n 0, 1) := by decide +kernel
theorem dX11_cause_85 : decode cX11_cause 85 = .ok (.getfield 9, 3) := by decide +kernel
theorem dX11_cause_88 : decode cX11_cause 88 = .ok (.iconst 3, 1) := by decide +kernel
theorem dX11_cause_89 : decode cX11_cause 89 = .ok (.iaload, 1) := by decide +kernel
theorem dX11_cause_90 : decode cX11_cause 90 = .ok (.iconst 1, 1) := by decide +kernel
theorem dX11_cause_91 : decode cX11_cause 91 = .ok (.iadd, 1) := by decide +kernel
theorem dX11_cause_92 : decode cX11_cause 92 = .ok (.bipush 60, 2) := by decide +kernel
theorem dX11_cause_94 : decode cX11_cause 94 = .ok (.irem, 1) := by decide +kernel
theorem dX11_cause_95 : decode cX11_cause 95 = .ok (.iadd, 1) := by decide +kernel
theorem dX11_cause_96 : decode cX11_cause 96 = .ok (.ireturn, 1) := by decide +kernel
theorem dX11_cause_97 : decode cX11_cause 97 = .ok (.sipush 400, 3) := by decide +kernel
theorem dX11_cause_100 : decode cX11_cause 100 = .ok (.aload_n 0, 1) := by decide +kernel
theorem dX11_cause_101 : decode cX11_cause 101 = .ok (.getfield 9, 3) := by decide +kernel
theorem dX11_cause_104 : decode cX11_cause 104 = .ok (.iload 4, 2) := by decide +kernel
theorem dX11_cause_106 : decode cX11_cause 106 = .ok (.invokestatic 84, 3) := by decide +kernel
theorem dX11_cause_109 : decode cX11_cause 109 = .ok (.bipush 11, 2) := by decide +kernel
theorem dX11_cause_111 : decode cX11_cause 111 = .ok (.iadd, 1) := by decide +kernel
theorem dX11_cause_112 : decode cX11_cause 112 = .ok (.iaload, 1) := by decide +kernel
theorem dX11_cause_113 : decode cX11_cause 113 = .ok (.iadd, 1) := by decide +kernel
theorem dX11_cause_114 : decode cX11_cause 114 = .ok (.aload_n 0, 1) := by decide +kernel
theorem dX11_cause_115 : decode cX11_cause 115 = .ok (.getfield 9, 3) := by decide +kernel
theorem dX11_cause_118 : decode cX11_cause 118 = .ok (.iconst 3, 1) := by decide +kernel
theorem dX11_cause_119 : decode cX11_cause 119 = .ok (.iaload, 1) := by decide +kernel
theorem dX11_cause_120 : decode cX11_cause 120 = .ok (.isub, 1) := by decide +kernel
theorem dX11_cause_121 : decode cX11_cause 121 = .ok (.iconst 1, 1) := by decide +kernel
theorem dX11_cause_122 : decode cX11_cause 122 = .ok (.isub, 1) := by decide +kernel
theorem dX11_cause_123 : decode cX11_cause 123 = .ok (.ireturn, 1) := by decide +kernel
theorem dX11_cause_124 : decode cX11_cause 124 = .ok (.sipush 500, 3) := by decide +kernel
theorem dX11_cause_127 : decode cX11_cause 127 = .ok (.aload_n 0, 1) := by decide +kernel
theorem dX11_cause_128 : decode cX11_cause 128 = .ok (.iload_n 1, 1) := by decide +kernel
theorem dX11_cause_129 : decode cX11_cause 129 = .ok (.iload 4, 2) := by decide +kernel
theorem dX11_cause_131 : decode cX11_cause 131 = .ok (.invokevirtual 163, 3) := by decide +kernel
theorem dX11_cause_134 : decode cX11_cause 134 = .ok (.iadd, 1) := by decide +kernel
theorem dX11_cause_135 : decode cX11_cause 135 = .ok (.aload_n 0, 1) := by decide +kernel
theorem dX11_cause_136 : decode cX11_cause 136 = .ok (.iload_n 1, 1) := by decide +kernel
theorem dX11_cause_137 : decode cX11_cause 137 = .ok (.invokevirtual 160, 3) := by decide +kernel
theorem dX11_cause_140 : decode cX11_cause 140 = .ok (.isub, 1) := by decide +kernel
theorem dX11_cause_141 : decode cX11_cause 141 = .ok (.ireturn, 1) := by decide +kernel
theorem dX11_cause_142 : decode cX11_cause 142 = .ok (.sipush 600, 3) := by decide +kernel
theorem dX11_cause_145 : decode cX11_cause 145 = .ok (.aload_n 0, 1) := by decide +kernel
theorem dX11_cause_146 : decode cX11_cause 146 = .ok (.iload 4, 2) := by decide +kernel
theorem dX11_cause_148 : decode cX11_cause 148 = .ok (.invokevirtual 181, 3) := by decide +kernel
theorem dX11_cause_151 : decode cX11_cause 151 = .ok (.iadd, 1) := by decide +kernel
theorem dX11_cause_152 : decode cX11_cause 152 = .ok (.ireturn, 1) := by decide +kernel
theorem dX11_cause_153 : decode cX11_cause 153 = .ok (.iconst 0, 1) := by decide +kernel
theorem dX11_cause_154 : decode cX11_cause 154 = .ok (.ireturn, 1) := by decide +kernel
theorem dX11_why_0 : decode cX11_why 0 = .ok (.aload_n 0, 1) := by decide +kernel
theorem dX11_why_1 : decode cX11_why 1 = .ok (.aload_n 0, 1) := by decide +kernel
theorem dX11_why_2 : decode cX11_why 2 = .ok (.iload_n 1, 1) := by decide +kernel
theorem dX11_why_3 : decode cX11_why 3 = .ok (.invokevirtual 396, 3) := by decide +kernel
theorem dX11_why_6 : decode cX11_why 6 = .ok (.iload_n 2, 1) := by decide +kernel
theorem dX11_why_7 : decode cX11_why 7 = .ok (.i2l, 1) := by decide +kernel
theorem dX11_why_8 : decode cX11_why 8 = .ok (.lconst 0, 1) := by decide +kernel
theorem dX11_why_9 : decode cX11_why 9 = .ok (.lconst 1, 1) := by decide +kernel
theorem dX11_why_10 : decode cX11_why 10 = .ok (.invokestatic 199, 3) := by decide +kernel
theorem dX11_why_13 : decode cX11_why 13 = .ok (.iconst 1, 1) := by decide +kernel
theorem dX11_why_14 : decode cX11_why 14 = .ok (.invokevirtual 365, 3) := by decide +kernel
theorem dX11_why_17 : decode cX11_why 17 = .ok (.ifCond .ne 5, 3) := by decide +kernel
theorem dX11_why_20 : decode cX11_why 20 = .ok (.iconst 0, 1) := by decide +kernel
theorem dX11_why_21 : decode cX11_why 21 = .ok (.ireturn, 1) := by decide +kernel
theorem dX11_why_22 : decode cX11_why 22 = .ok (.aload_n 0, 1) := by decide +kernel
theorem dX11_why_23 : decode cX11_why 23 = .ok (.iload_n 1, 1) := by decide +kernel
theorem dX11_why_24 : decode cX11_why 24 = .ok (.invokevirtual 404, 3) := by decide +kernel
theorem dX11_why_27 : decode cX11_why 27 = .ok (.istore_n 3, 1) := by decide +kernel
theorem dX11_why_28 : decode cX11_why 28 = .ok (.iload_n 2, 1) := by decide +kernel
theorem dX11_why_29 : decode cX11_why 29 = .ok (.ifCond .ne 7, 3) := by decide +kernel
theorem dX11_why_32 : decode cX11_why 32 = .ok (.iload_n 3, 1) := by decide +kernel
theorem dX11_why_33 : decode cX11_why 33 = .ok (.goto 9, 3) := by decide +kernel
theorem dX11_why_36 : decode cX11_why 36 = .ok (.aload_n 0, 1) := by decide +kernel
theorem dX11_why_37 : decode cX11_why 37 = .ok (.iload_n 1, 1) := by decide +kernel
theorem dX11_why_38 : decode cX11_why 38 = .ok (.iload_n 3, 1) := by decide +kernel
theorem dX11_why_39 : decode cX11_why 39 = .ok (.invokevirtual 407, 3) := by decide +kernel
theorem dX11_why_42 : decode cX11_why 42 = .ok (.ireturn, 1) := by decide +kernel
theorem dX11_costOf_0 : decode cX11_costOf 0 = .ok (.aload_n 0, 1) := by decide +kernel
theorem dX11_costOf_1 : decode cX11_costOf 1 = .ok (.aload_n 0, 1) := by decide +kernel
theorem dX11_costOf_2 : decode cX11_costOf 2 = .ok (.iload_n 1, 1) := by decide +kernel
theorem dX11_costOf_3 : decode cX11_costOf 3 = .ok (.iload_n 2, 1) := by decide +kernel
theorem dX11_costOf_4 : decode cX11_costOf 4 = .ok (.invokevirtual 393, 3) := by decide +kernel
theorem dX11_costOf_7 : decode cX11_costOf 7 = .ok (.iload_n 3, 1) := by decide +kernel
theorem dX11_costOf_8 : decode cX11_costOf 8 = .ok (.i2l, 1) := by decide +kernel
theorem dX11_costOf_9 : decode cX11_costOf 9 = .ok (.lconst 1, 1) := by decide +kernel
theorem dX11_costOf_10 : decode cX11_costOf 10 = .ok (.ldc2_w 410, 3) := by decide +kernel
theorem dX11_costOf_13 : decode cX11_costOf 13 = .ok (.invokestatic 199, 3) := by decide +kernel
theorem dX11_costOf_16 : decode cX11_costOf 16 = .ok (.iconst 1, 1) := by decide +kernel
theorem dX11_costOf_17 : decode cX11_costOf 17 = .ok (.invokevirtual 365, 3) := by decide +kernel
theorem dX11_costOf_20 : decode cX11_costOf 20 = .ok (.ifCond .ne 5, 3) := by decide +kernel
theorem dX11_costOf_23 : decode cX11_costOf 23 = .ok (.iconst 0, 1) := by decide +kernel
theorem dX11_costOf_24 : decode cX11_costOf 24 = .ok (.ireturn, 1) := by decide +kernel
theorem dX11_costOf_25 : decode cX11_costOf 25 = .ok (.aload_n 0, 1) := by decide +kernel
theorem dX11_costOf_26 : decode cX11_costOf 26 = .ok (.iload_n 1, 1) := by decide +kernel
theorem dX11_costOf_27 : decode cX11_costOf 27 = .ok (.iload_n 2, 1) := by decide +kernel
theorem dX11_costOf_28 : decode cX11_costOf 28 = .ok (.invokevirtual 106, 3) := by decide +kernel
theorem dX11_costOf_31 : decode cX11_costOf 31 = .ok (.iconst (-1), 1) := by decide +kernel
theorem dX11_costOf_32 : decode cX11_costOf 32 = .ok (.if_icmp .ne 5, 3) := by decide +kernel
theorem dX11_costOf_35 : decode cX11_costOf 35 = .ok (.iconst (-1), 1) := by decide +kernel
theorem dX11_costOf_36 : decode cX11_costOf 36 = .ok (.ireturn, 1) := by decide +kernel
theorem dX11_costOf_37 : decode cX11_costOf 37 = .ok (.iconst 0, 1) := by decide +kernel
theorem dX11_costOf_38 : decode cX11_costOf 38 = .ok (.istore 4, 2) := by decide +kernel
theorem dX11_costOf_40 : decode cX11_costOf 40 = .ok (.iload_n 1, 1) := by decide +kernel
theorem dX11_costOf_41 : decode cX11_costOf 41 = .ok (.istore 5, 2) := by decide +kernel
theorem dX11_costOf_43 : decode cX11_costOf 43 = .ok (.iload 5, 2) := by decide +kernel
theorem dX11_costOf_45 : decode cX11_costOf 45 = .ok (.iload_n 2, 1) := by decide +kernel
theorem dX11_costOf_46 : decode cX11_costOf 46 = .ok (.if_icmp .eq 39, 3) := by decide +kernel
theorem dX11_costOf_49 : decode cX11_costOf 49 = .ok (.iload 4, 2) := by decide +kernel
theorem dX11_costOf_51 : decode cX11_costOf 51 = .ok (.aload_n 0, 1) := by decide +kernel
theorem dX11_costOf_52 : decode cX11_costOf 52 = .ok (.getfield 9, 3) := by decide +kernel
theorem dX11_costOf_55 : decode cX11_costOf 55 = .ok (.iload 5, 2) := by decide +kernel
theorem dX11_costOf_57 : decode cX11_costOf 57 = .ok (.invokestatic 84, 3) := by decide +kernel
theorem dX11_costOf_60 : decode cX11_costOf 60 = .ok (.bipush 9, 2) := by decide +kernel
theorem dX11_costOf_62 : decode cX11_costOf 62 = .ok (.iadd, 1) := by decide +kernel
theorem dX11_costOf_63 : decode cX11_costOf 63 = .ok (.iaload, 1) := by decide +kernel
theorem dX11_costOf_64 : decode cX11_costOf 64 = .ok (.aload_n 0, 1) := by decide +kernel
theorem dX11_costOf_65 : decode cX11_costOf 65 = .ok (.iload_n 3, 1) := by decide +kernel
theorem dX11_costOf_66 : decode cX11_costOf 66 = .ok (.invokevirtual 112, 3) := by decide +kernel
theorem dX11_costOf_69 : decode cX11_costOf 69 = .ok (.imul, 1) := by decide +kernel
theorem dX11_costOf_70 : decode cX11_costOf 70 = .ok (.iadd, 1) := by decide +kernel
theorem dX11_costOf_71 : decode cX11_costOf 71 = .ok (.istore 4, 2) := by decide +kernel
theorem dX11_costOf_73 : decode cX11_costOf 73 = .ok (.aload_n 0, 1) := by decide +kernel
theorem dX11_costOf_74 : decode cX11_costOf 74 = .ok (.iload 5, 2) := by decide +kernel
theorem dX11_costOf_76 : decode cX11_costOf 76 = .ok (.iload_n 2, 1) := by decide +kernel
theorem dX11_costOf_77 : decode cX11_costOf 77 = .ok (.invokevirtual 166, 3) := by decide +kernel
theorem dX11_costOf_80 : decode cX11_costOf 80 = .ok (.istore 5, 2) := by decide +kernel
theorem dX11_costOf_82 : decode cX11_costOf 82 = .ok (.goto (-39), 3) := by decide +kernel
theorem dX11_costOf_85 : decode cX11_costOf 85 = .ok (.iload 4, 2) := by decide +kernel
theorem dX11_costOf_87 : decode cX11_costOf 87 = .ok (.ireturn, 1) := by decide +kernel
theorem dX11_wrongOf_0 : decode cX11_wrongOf 0 = .ok (.iconst 0, 1) := by decide +kernel
theorem dX11_wrongOf_1 : decode cX11_wrongOf 1 = .ok (.istore 5, 2) := by decide +kernel
theorem dX11_wrongOf_3 : decode cX11_wrongOf 3 = .ok (.iload_n 1, 1) := by decide +kernel
theorem dX11_wrongOf_4 : decode cX11_wrongOf 4 = .ok (.istore 6, 2) := by decide +kernel
theorem dX11_wrongOf_6 : decode cX11_wrongOf 6 = .ok (.iload 6, 2) := by decide +kernel
theorem dX11_wrongOf_8 : decode cX11_wrongOf 8 = .ok (.iload_n 2, 1) := by decide +kernel
theorem dX11_wrongOf_9 : decode cX11_wrongOf 9 = .ok (.if_icmp .eq 51, 3) := by decide +kernel
theorem dX11_wrongOf_12 : decode cX11_wrongOf 12 = .ok (.aload_n 0, 1) := by decide +kernel
theorem dX11_wrongOf_13 : decode cX11_wrongOf 13 = .ok (.iload 6, 2) := by decide +kernel
theorem dX11_wrongOf_15 : decode cX11_wrongOf 15 = .ok (.iload_n 2, 1) := by decide +kernel
theorem dX11_wrongOf_16 : decode cX11_wrongOf 16 = .ok (.invokevirtual 166, 3) := by decide +kernel
theorem dX11_wrongOf_19 : decode cX11_wrongOf 19 = .ok (.istore 7, 2) := by decide +kernel
theorem dX11_wrongOf_21 : decode cX11_wrongOf 21 = .ok (.iload 5, 2) := by decide +kernel
theorem dX11_wrongOf_23 : decode cX11_wrongOf 23 = .ok (.aload_n 0, 1) := by decide +kernel
theorem dX11_wrongOf_24 : decode cX11_wrongOf 24 = .ok (.iload 4, 2) := by decide +kernel
theorem dX11_wrongOf_26 : decode cX11_wrongOf 26 = .ok (.aload_n 0, 1) := by decide +kernel
theorem dX11_wrongOf_27 : decode cX11_wrongOf 27 = .ok (.getfield 9, 3) := by decide +kernel
theorem dX11_wrongOf_30 : decode cX11_wrongOf 30 = .ok (.aload_n 0, 1) := by decide +kernel
theorem dX11_wrongOf_31 : decode cX11_wrongOf 31 = .ok (.iload 6, 2) := by decide +kernel
theorem dX11_wrongOf_33 : decode cX11_wrongOf 33 = .ok (.iload 7, 2) := by decide +kernel
theorem dX11_wrongOf_35 : decode cX11_wrongOf 35 = .ok (.invokevirtual 169, 3) := by decide +kernel
theorem dX11_wrongOf_38 : decode cX11_wrongOf 38 = .ok (.invokestatic 88, 3) := by decide +kernel
theorem dX11_wrongOf_41 : decode cX11_wrongOf 41 = .ok (.iconst 2, 1) := by decide +kernel
theorem dX11_wrongOf_42 : decode cX11_wrongOf 42 = .ok (.iadd, 1) := by decide +kernel
theorem dX11_wrongOf_43 : decode cX11_wrongOf 43 = .ok (.iaload, 1) := by decide +kernel
theorem dX11_wrongOf_44 : decode cX11_wrongOf 44 = .ok (.iload 7, 2) := by decide +kernel
theorem dX11_wrongOf_46 : decode cX11_wrongOf 46 = .ok (.iload_n 3, 1) := by decide +kernel
theorem dX11_wrongOf_47 : decode cX11_wrongOf 47 = .ok (.invokevirtual 137, 3) := by decide +kernel
theorem dX11_wrongOf_50 : decode cX11_wrongOf 50 = .ok (.iadd, 1) := by decide +kernel
theorem dX11_wrongOf_51 : decode cX11_wrongOf 51 = .ok (.istore 5, 2) := by decide +kernel
theorem dX11_wrongOf_53 : decode cX11_wrongOf 53 = .ok (.iload 7, 2) := by decide +kernel
theorem dX11_wrongOf_55 : decode cX11_wrongOf 55 = .ok (.istore 6, 2) := by decide +kernel
theorem dX11_wrongOf_57 : decode cX11_wrongOf 57 = .ok (.goto (-51), 3) := by decide +kernel
theorem dX11_wrongOf_60 : decode cX11_wrongOf 60 = .ok (.iload 5, 2) := by decide +kernel
theorem dX11_wrongOf_62 : decode cX11_wrongOf 62 = .ok (.ireturn, 1) := by decide +kernel
theorem dX11_wrongOn_0 : decode cX11_wrongOn 0 = .ok (.aload_n 0, 1) := by decide +kernel
theorem dX11_wrongOn_1 : decode cX11_wrongOn 1 = .ok (.aload_n 0, 1) := by decide +kernel
theorem dX11_wrongOn_2 : decode cX11_wrongOn 2 = .ok (.iload_n 1, 1) := by decide +kernel
theorem dX11_wrongOn_3 : decode cX11_wrongOn 3 = .ok (.iload_n 2, 1) := by decide +kernel
theorem dX11_wrongOn_4 : decode cX11_wrongOn 4 = .ok (.invokevirtual 393, 3) := by decide +kernel
theorem dX11_wrongOn_7 : decode cX11_wrongOn 7 = .ok (.iload_n 3, 1) := by decide +kernel
theorem dX11_wrongOn_8 : decode cX11_wrongOn 8 = .ok (.i2l, 1) := by decide +kernel
theorem dX11_wrongOn_9 : decode cX11_wrongOn 9 = .ok (.lconst 1, 1) := by decide +kernel
theorem dX11_wrongOn_10 : decode cX11_wrongOn 10 = .ok (.ldc2_w 410, 3) := by decide +kernel
theorem dX11_wrongOn_13 : decode cX11_wrongOn 13 = .ok (.invokestatic 199, 3) := by decide +kernel
theorem dX11_wrongOn_16 : decode cX11_wrongOn 16 = .ok (.iconst 1, 1) := by decide +kernel
theorem dX11_wrongOn_17 : decode cX11_wrongOn 17 = .ok (.invokevirtual 365, 3) := by decide +kernel
theorem dX11_wrongOn_20 : decode cX11_wrongOn 20 = .ok (.ifCond .ne 5, 3) := by decide +kernel
theorem dX11_wrongOn_23 : decode cX11_wrongOn 23 = .ok (.iconst 0, 1) := by decide +kernel
theorem dX11_wrongOn_24 : decode cX11_wrongOn 24 = .ok (.ireturn, 1) := by decide +kernel
theorem dX11_wrongOn_25 : decode cX11_wrongOn 25 = .ok (.aload_n 0, 1) := by decide +kernel
theorem dX11_wrongOn_26 : decode cX11_wrongOn 26 = .ok (.iload_n 1, 1) := by decide +kernel
theorem dX11_wrongOn_27 : decode cX11_wrongOn 27 = .ok (.iload_n 2, 1) := by decide +kernel
theorem dX11_wrongOn_28 : decode cX11_wrongOn 28 = .ok (.invokevirtual 106, 3) := by decide +kernel
theorem dX11_wrongOn_31 : decode cX11_wrongOn 31 = .ok (.iconst (-1), 1) := by decide +kernel
theorem dX11_wrongOn_32 : decode cX11_wrongOn 32 = .ok (.if_icmp .ne 7, 3) := by decide +kernel
theorem dX11_wrongOn_35 : decode cX11_wrongOn 35 = .ok (.iconst (-1), 1) := by decide +kernel
theorem dX11_wrongOn_36 : decode cX11_wrongOn 36 = .ok (.goto 16, 3) := by decide +kernel
theorem dX11_wrongOn_39 : decode cX11_wrongOn 39 = .ok (.aload_n 0, 1) := by decide +kernel
theorem dX11_wrongOn_40 : decode cX11_wrongOn 40 = .ok (.iload_n 1, 1) := by decide +kernel
theorem dX11_wrongOn_41 : decode cX11_wrongOn 41 = .ok (.iload_n 2, 1) := by decide +kernel
theorem dX11_wrongOn_42 : decode cX11_wrongOn 42 = .ok (.iload_n 3, 1) := by decide +kernel
theorem dX11_wrongOn_43 : decode cX11_wrongOn 43 = .ok (.aload_n 0, 1) := by decide +kernel
theorem dX11_wrongOn_44 : decode cX11_wrongOn 44 = .ok (.getfield 9, 3) := by decide +kernel
theorem dX11_wrongOn_47 : decode cX11_wrongOn 47 = .ok (.iconst 4, 1) := by decide +kernel
theorem dX11_wrongOn_48 : decode cX11_wrongOn 48 = .ok (.iaload, 1) := by decide +kernel
theorem dX11_wrongOn_49 : decode cX11_wrongOn 49 = .ok (.invokevirtual 412, 3) := by decide +kernel
theorem dX11_wrongOn_52 : decode cX11_wrongOn 52 = .ok (.ireturn, 1) := by decide +kernel
theorem dX11_calmest_0 : decode cX11_calmest 0 = .ok (.aload_n 0, 1) := by decide +kernel
theorem dX11_calmest_1 : decode cX11_calmest 1 = .ok (.aload_n 0, 1) := by decide +kernel
theorem dX11_calmest_2 : decode cX11_calmest 2 = .ok (.iload_n 1, 1) := by decide +kernel
theorem dX11_calmest_3 : decode cX11_calmest 3 = .ok (.iload_n 2, 1) := by decide +kernel
theorem dX11_calmest_4 : decode cX11_calmest 4 = .ok (.invokevirtual 393, 3) := by decide +kernel
theorem dX11_calmest_7 : decode cX11_calmest 7 = .ok (.iconst 1, 1) := by decide +kernel
theorem dX11_calmest_8 : decode cX11_calmest 8 = .ok (.iconst 1, 1) := by decide +kernel
theorem dX11_calmest_9 : decode cX11_calmest 9 = .ok (.invokevirtual 365, 3) := by decide +kernel
theorem dX11_calmest_12 : decode cX11_calmest 12 = .ok (.ifCond .ne 5, 3) := by decide +kernel
theorem dX11_calmest_15 : decode cX11_calmest 15 = .ok (.iconst 0, 1) := by decide +kernel
theorem dX11_calmest_16 : decode cX11_calmest 16 = .ok (.ireturn, 1) := by decide +kernel
theorem dX11_calmest_17 : decode cX11_calmest 17 = .ok (.aload_n 0, 1) := by decide +kernel
theorem dX11_calmest_18 : decode cX11_calmest 18 = .ok (.iload_n 1, 1) := by decide +kernel
theorem dX11_calmest_19 : decode cX11_calmest 19 = .ok (.iload_n 2, 1) := by decide +kernel
theorem dX11_calmest_20 : decode cX11_calmest 20 = .ok (.invokevirtual 106, 3) := by decide +kernel
theorem dX11_calmest_23 : decode cX11_calmest 23 = .ok (.iconst (-1), 1) := by decide +kernel
theorem dX11_calmest_24 : decode cX11_calmest 24 = .ok (.if_icmp .ne 5, 3) := by decide +kernel
theorem dX11_calmest_27 : decode cX11_calmest 27 = .ok (.iconst (-1), 1) := by decide +kernel
theorem dX11_calmest_28 : decode cX11_calmest 28 = .ok (.ireturn, 1) := by decide +kernel
theorem dX11_calmest_29 : decode cX11_calmest 29 = .ok (.bipush 9, 2) := by decide +kernel
theorem dX11_calmest_31 : decode cX11_calmest 31 = .ok (.istore_n 3, 1) := by decide +kernel
theorem dX11_calmest_32 : decode cX11_calmest 32 = .ok (.aload_n 0, 1) := by decide +kernel
theorem dX11_calmest_33 : decode cX11_calmest 33 = .ok (.iload_n 1, 1) := by decide +kernel
theorem dX11_calmest_34 : decode cX11_calmest 34 = .ok (.iload_n 2, 1) := by decide +kernel
theorem dX11_calmest_35 : decode cX11_calmest 35 = .ok (.iconst 1, 1) := by decide +kernel
theorem dX11_calmest_36 : decode cX11_calmest 36 = .ok (.iload_n 3, 1) := by decide +kernel
theorem dX11_calmest_37 : decode cX11_calmest 37 = .ok (.invokevirtual 412, 3) := by decide +kernel
theorem dX11_calmest_40 : decode cX11_calmest 40 = .ok (.ifCond .le 9, 3) := by decide +kernel
theorem dX11_calmest_43 : decode cX11_calmest 43 = .ok (.iinc 3 (-1), 3) := by decide +kernel
theorem dX11_calmest_46 : decode cX11_calmest 46 = .ok (.goto (-14), 3) := by decide +kernel
theorem dX11_calmest_49 : decode cX11_calmest 49 = .ok (.iload_n 3, 1) := by decide +kernel
theorem dX11_calmest_50 : decode cX11_calmest 50 = .ok (.ireturn, 1) := by decide +kernel
theorem dX11_arrivesIn_0 : decode cX11_arrivesIn 0 = .ok (.aload_n 0, 1) := by decide +kernel
theorem dX11_arrivesIn_1 : decode cX11_arrivesIn 1 = .ok (.aload_n 0, 1) := by decide +kernel
theorem dX11_arrivesIn_2 : decode cX11_arrivesIn 2 = .ok (.iload_n 1, 1) := by decide +kernel
theorem dX11_arrivesIn_3 : decode cX11_arrivesIn 3 = .ok (.invokevirtual 396, 3) := by decide +kernel
theorem dX11_arrivesIn_6 : decode cX11_arrivesIn 6 = .ok (.iconst 1, 1) := by decide +kernel
theorem dX11_arrivesIn_7 : decode cX11_arrivesIn 7 = .ok (.iconst 1, 1) := by decide +kernel
theorem dX11_arrivesIn_8 : decode cX11_arrivesIn 8 = .ok (.invokevirtual 365, 3) := by decide +kernel
theorem dX11_arrivesIn_11 : decode cX11_arrivesIn 11 = .ok (.ifCond .ne 5, 3) := by decide +kernel
theorem dX11_arrivesIn_14 : decode cX11_arrivesIn 14 = .ok (.iconst 0, 1) := by decide +kernel
theorem dX11_arrivesIn_15 : decode cX11_arrivesIn 15 = .ok (.ireturn, 1) := by decide +kernel
theorem dX11_arrivesIn_16 : decode cX11_arrivesIn 16 = .ok (.aload_n 0, 1) := by decide +kernel
theorem dX11_arrivesIn_17 : decode cX11_arrivesIn 17 = .ok (.aload_n 0, 1) := by decide +kernel
theorem dX11_arrivesIn_18 : decode cX11_arrivesIn 18 = .ok (.getfield 13, 3) := by decide +kernel
theorem dX11_arrivesIn_21 : decode cX11_arrivesIn 21 = .ok (.invokevirtual 299, 3) := by decide +kernel
theorem dX11_arrivesIn_24 : decode cX11_arrivesIn 24 = .ok (.iconst 0, 1) := by decide +kernel
theorem dX11_arrivesIn_25 : decode cX11_arrivesIn 25 = .ok (.istore_n 2, 1) := by decide +kernel
theorem dX11_arrivesIn_26 : decode cX11_arrivesIn 26 = .ok (.iload_n 2, 1) := by decide +kernel
theorem dX11_arrivesIn_27 : decode cX11_arrivesIn 27 = .ok (.sipush 200, 3) := by decide +kernel
theorem dX11_arrivesIn_30 : decode cX11_arrivesIn 30 = .ok (.if_icmp .gt 38, 3) := by decide +kernel
theorem dX11_arrivesIn_33 : decode cX11_arrivesIn 33 = .ok (.aload_n 0, 1) := by decide +kernel
theorem dX11_arrivesIn_34 : decode cX11_arrivesIn 34 = .ok (.getfield 9, 3) := by decide +kernel
theorem dX11_arrivesIn_37 : decode cX11_arrivesIn 37 = .ok (.iload_n 1, 1) := by decide +kernel
theorem dX11_arrivesIn_38 : decode cX11_arrivesIn 38 = .ok (.invokestatic 109, 3) := by decide +kernel
theorem dX11_arrivesIn_41 : decode cX11_arrivesIn 41 = .ok (.iconst 3, 1) := by decide +kernel
theorem dX11_arrivesIn_42 : decode cX11_arrivesIn 42 = .ok (.iadd, 1) := by decide +kernel
theorem dX11_arrivesIn_43 : decode cX11_arrivesIn 43 = .ok (.iaload, 1) := by decide +kernel
theorem dX11_arrivesIn_44 : decode cX11_arrivesIn 44 = .ok (.iconst 2, 1) := by decide +kernel
theorem dX11_arrivesIn_45 : decode cX11_arrivesIn 45 = .ok (.if_icmp .ne 13, 3) := by decide +kernel
theorem dX11_arrivesIn_48 : decode cX11_arrivesIn 48 = .ok (.aload_n 0, 1) := by decide +kernel
theorem dX11_arrivesIn_49 : decode cX11_arrivesIn 49 = .ok (.aload_n 0, 1) := by decide +kernel
theorem dX11_arrivesIn_50 : decode cX11_arrivesIn 50 = .ok (.getfield 13, 3) := by decide +kernel
theorem dX11_arrivesIn_53 : decode cX11_arrivesIn 53 = .ok (.iload_n 2, 1) := by decide +kernel
theorem dX11_arrivesIn_54 : decode cX11_arrivesIn 54 = .ok (.invokevirtual 312, 3) := by decide +kernel
theorem dX11_arrivesIn_57 : decode cX11_arrivesIn 57 = .ok (.ireturn, 1) := by decide +kernel
theorem dX11_arrivesIn_58 : decode cX11_arrivesIn 58 = .ok (.aload_n 0, 1) := by decide +kernel
theorem dX11_arrivesIn_59 : decode cX11_arrivesIn 59 = .ok (.invokevirtual 190, 3) := by decide +kernel
theorem dX11_arrivesIn_62 : decode cX11_arrivesIn 62 = .ok (.iinc 2 1, 3) := by decide +kernel
theorem dX11_arrivesIn_65 : decode cX11_arrivesIn 65 = .ok (.goto (-39), 3) := by decide +kernel
theorem dX11_arrivesIn_68 : decode cX11_arrivesIn 68 = .ok (.aload_n 0, 1) := by decide +kernel
theorem dX11_arrivesIn_69 : decode cX11_arrivesIn 69 = .ok (.aload_n 0, 1) := by decide +kernel
theorem dX11_arrivesIn_70 : decode cX11_arrivesIn 70 = .ok (.getfield 13, 3) := by decide +kernel
theorem dX11_arrivesIn_73 : decode cX11_arrivesIn 73 = .ok (.iconst (-1), 1) := by decide +kernel
theorem dX11_arrivesIn_74 : decode cX11_arrivesIn 74 = .ok (.invokevirtual 312, 3) := by decide +kernel
theorem dX11_arrivesIn_77 : decode cX11_arrivesIn 77 = .ok (.ireturn, 1) := by decide +kernel
theorem dX11_growsBy_0 : decode cX11_growsBy 0 = .ok (.aload_n 0, 1) := by decide +kernel
theorem dX11_growsBy_1 : decode cX11_growsBy 1 = .ok (.iload_n 1, 1) := by decide +kernel
theorem dX11_growsBy_2 : decode cX11_growsBy 2 = .ok (.i2l, 1) := by decide +kernel
theorem dX11_growsBy_3 : decode cX11_growsBy 3 = .ok (.lconst 0, 1) := by decide +kernel
theorem dX11_growsBy_4 : decode cX11_growsBy 4 = .ok (.ldc2_w 378, 3) := by decide +kernel
theorem dX11_growsBy_7 : decode cX11_growsBy 7 = .ok (.invokestatic 199, 3) := by decide +kernel
theorem dX11_growsBy_10 : decode cX11_growsBy 10 = .ok (.ifCond .eq 19, 3) := by decide +kernel
theorem dX11_growsBy_13 : decode cX11_growsBy 13 = .ok (.iload_n 2, 1) := by decide +kernel
theorem dX11_growsBy_14 : decode cX11_growsBy 14 = .ok (.i2l, 1) := by decide +kernel
theorem dX11_growsBy_15 : decode cX11_growsBy 15 = .ok (.lconst 0, 1) := by decide +kernel
theorem dX11_growsBy_16 : decode cX11_growsBy 16 = .ok (.ldc2_w 415, 3) := by decide +kernel
theorem dX11_growsBy_19 : decode cX11_growsBy 19 = .ok (.invokestatic 199, 3) := by decide +kernel
theorem dX11_growsBy_22 : decode cX11_growsBy 22 = .ok (.ifCond .eq 7, 3) := by decide +kernel
theorem dX11_growsBy_25 : decode cX11_growsBy 25 = .ok (.iconst 1, 1) := by decide +kernel
theorem dX11_growsBy_26 : decode cX11_growsBy 26 = .ok (.goto 4, 3) := by decide +kernel
theorem dX11_growsBy_29 : decode cX11_growsBy 29 = .ok (.iconst 0, 1) := by decide +kernel
theorem dX11_growsBy_30 : decode cX11_growsBy 30 = .ok (.iconst 1, 1) := by decide +kernel
theorem dX11_growsBy_31 : decode cX11_growsBy 31 = .ok (.iconst 1, 1) := by decide +kernel
theorem dX11_growsBy_32 : decode cX11_growsBy 32 = .ok (.invokevirtual 365, 3) := by decide +kernel
theorem dX11_growsBy_35 : decode cX11_growsBy 35 = .ok (.ifCond .ne 5, 3) := by decide +kernel
theorem dX11_growsBy_38 : decode cX11_growsBy 38 = .ok (.iconst 0, 1) := by decide +kernel
theorem dX11_growsBy_39 : decode cX11_growsBy 39 = .ok (.ireturn, 1) := by decide +kernel
theorem dX11_growsBy_40 : decode cX11_growsBy 40 = .ok (.aload_n 0, 1) := by decide +kernel
theorem dX11_growsBy_41 : decode cX11_growsBy 41 = .ok (.getfield 9, 3) := by decide +kernel
theorem dX11_growsBy_44 : decode cX11_growsBy 44 = .ok (.bipush 10, 2) := by decide +kernel
theorem dX11_growsBy_46 : decode cX11_growsBy 46 = .ok (.iload_n 1, 1) := by decide +kernel
theorem dX11_growsBy_47 : decode cX11_growsBy 47 = .ok (.iadd, 1) := by decide +kernel
theorem dX11_growsBy_48 : decode cX11_growsBy 48 = .ok (.iaload, 1) := by decide +kernel
theorem dX11_growsBy_49 : decode cX11_growsBy 49 = .ok (.istore_n 3, 1) := by decide +kernel
theorem dX11_growsBy_50 : decode cX11_growsBy 50 = .ok (.aload_n 0, 1) := by decide +kernel
theorem dX11_growsBy_51 : decode cX11_growsBy 51 = .ok (.aload_n 0, 1) := by decide +kernel
theorem dX11_growsBy_52 : decode cX11_growsBy 52 = .ok (.getfield 13, 3) := by decide +kernel
theorem dX11_growsBy_55 : decode cX11_growsBy 55 = .ok (.invokevirtual 299, 3) := by decide +kernel
theorem dX11_growsBy_58 : decode cX11_growsBy 58 = .ok (.aload_n 0, 1) := by decide +kernel
theorem dX11_growsBy_59 : decode cX11_growsBy 59 = .ok (.iload_n 2, 1) := by decide +kernel
theorem dX11_growsBy_60 : decode cX11_growsBy 60 = .ok (.invokevirtual 342, 3) := by decide +kernel
theorem dX11_growsBy_63 : decode cX11_growsBy 63 = .ok (.istore 4, 2) := by decide +kernel
theorem dX11_growsBy_65 : decode cX11_growsBy 65 = .ok (.aload_n 0, 1) := by decide +kernel
theorem dX11_growsBy_66 : decode cX11_growsBy 66 = .ok (.aload_n 0, 1) := by decide +kernel
theorem dX11_growsBy_67 : decode cX11_growsBy 67 = .ok (.getfield 13, 3) := by decide +kernel
theorem dX11_growsBy_70 : decode cX11_growsBy 70 = .ok (.aload_n 0, 1) := by decide +kernel
theorem dX11_growsBy_71 : decode cX11_growsBy 71 = .ok (.getfield 9, 3) := by decide +kernel
theorem dX11_growsBy_74 : decode cX11_growsBy 74 = .ok (.bipush 10, 2) := by decide +kernel
theorem dX11_growsBy_76 : decode cX11_growsBy 76 = .ok (.iload_n 1, 1) := by decide +kernel
theorem dX11_growsBy_77 : decode cX11_growsBy 77 = .ok (.iadd, 1) := by decide +kernel
theorem dX11_growsBy_78 : decode cX11_growsBy 78 = .ok (.iaload, 1) := by decide +kernel
theorem dX11_growsBy_79 : decode cX11_growsBy 79 = .ok (.iload_n 3, 1) := by decide +kernel
theorem dX11_growsBy_80 : decode cX11_growsBy 80 = .ok (.isub, 1) := by decide +kernel
theorem dX11_growsBy_81 : decode cX11_growsBy 81 = .ok (.invokevirtual 312, 3) := by decide +kernel
theorem dX11_growsBy_84 : decode cX11_growsBy 84 = .ok (.ireturn, 1) := by decide +kernel
theorem dX11_partedWithout_0 : decode cX11_partedWithout 0 = .ok (.iconst 0, 1) := by decide +kernel
theorem dX11_partedWithout_1 : decode cX11_partedWithout 1 = .ok (.istore_n 2, 1) := by decide +kernel
theorem dX11_partedWithout_2 : decode cX11_partedWithout 2 = .ok (.iconst 0, 1) := by decide +kernel
theorem dX11_partedWithout_3 : decode cX11_partedWithout 3 = .ok (.istore_n 3, 1) := by decide +kernel
theorem dX11_partedWithout_4 : decode cX11_partedWithout 4 = .ok (.iload_n 3, 1) := by decide +kernel
theorem dX11_partedWithout_5 : decode cX11_partedWithout 5 = .ok (.aload_n 0, 1) := by decide +kernel
theorem dX11_partedWithout_6 : decode cX11_partedWithout 6 = .ok (.getfield 9, 3) := by decide +kernel
theorem dX11_partedWithout_9 : decode cX11_partedWithout 9 = .ok (.iconst 0, 1) := by decide +kernel
theorem dX11_partedWithout_10 : decode cX11_partedWithout 10 = .ok (.iaload, 1) := by decide +kernel
theorem dX11_partedWithout_11 : decode cX11_partedWithout 11 = .ok (.if_icmp .ge 52, 3) := by decide +kernel
theorem dX11_partedWithout_14 : decode cX11_partedWithout 14 = .ok (.aload_n 0, 1) := by decide +kernel
theorem dX11_partedWithout_15 : decode cX11_partedWithout 15 = .ok (.iload_n 3, 1) := by decide +kernel
theorem dX11_partedWithout_16 : decode cX11_partedWithout 16 = .ok (.iload_n 1, 1) := by decide +kernel
theorem dX11_partedWithout_17 : decode cX11_partedWithout 17 = .ok (.invokevirtual 102, 3) := by decide +kernel
theorem dX11_partedWithout_20 : decode cX11_partedWithout 20 = .ok (.iconst 0, 1) := by decide +kernel
theorem dX11_partedWithout_21 : decode cX11_partedWithout 21 = .ok (.istore 4, 2) := by decide +kernel
theorem dX11_partedWithout_23 : decode cX11_partedWithout 23 = .ok (.iload 4, 2) := by decide +kernel
theorem dX11_partedWithout_25 : decode cX11_partedWithout 25 = .ok (.iload_n 3, 1) := by decide +kernel
theorem dX11_partedWithout_26 : decode cX11_partedWithout 26 = .ok (.if_icmp .ge 31, 3) := by decide +kernel
theorem dX11_partedWithout_29 : decode cX11_partedWithout 29 = .ok (.iload_n 2, 1) := by decide +kernel
theorem dX11_partedWithout_30 : decode cX11_partedWithout 30 = .ok (.aload_n 0, 1) := by decide +kernel
theorem dX11_partedWithout_31 : decode cX11_partedWithout 31 = .ok (.getfield 25, 3) := by decide +kernel
theorem dX11_partedWithout_34 : decode cX11_partedWithout 34 = .ok (.iload 4, 2) := by decide +kernel
theorem dX11_partedWithout_36 : decode cX11_partedWithout 36 = .ok (.iaload, 1) := by decide +kernel
theorem dX11_partedWithout_37 : decode cX11_partedWithout 37 = .ok (.iconst (-1), 1) := by decide +kernel
theorem dX11_partedWithout_38 : decode cX11_partedWithout 38 = .ok (.if_icmp .ne 7, 3) := by decide +kernel
theorem dX11_partedWithout_41 : decode cX11_partedWithout 41 = .ok (.iconst 1, 1) := by decide +kernel
theorem dX11_partedWithout_42 : decode cX11_partedWithout 42 = .ok (.goto 4, 3) := by decide +kernel
theorem dX11_partedWithout_45 : decode cX11_partedWithout 45 = .ok (.iconst 0, 1) := by decide +kernel
theorem dX11_partedWithout_46 : decode cX11_partedWithout 46 = .ok (.invokestatic 115, 3) := by decide +kernel
theorem dX11_partedWithout_49 : decode cX11_partedWithout 49 = .ok (.iadd, 1) := by decide +kernel
theorem dX11_partedWithout_50 : decode cX11_partedWithout 50 = .ok (.istore_n 2, 1) := by decide +kernel
theorem dX11_partedWithout_51 : decode cX11_partedWithout 51 = .ok (.iinc 4 1, 3) := by decide +kernel
theorem dX11_partedWithout_54 : decode cX11_partedWithout 54 = .ok (.goto (-31), 3) := by decide +kernel
theorem dX11_partedWithout_57 : decode cX11_partedWithout 57 = .ok (.iinc 3 1, 3) := by decide +kernel
theorem dX11_partedWithout_60 : decode cX11_partedWithout 60 = .ok (.goto (-56), 3) := by decide +kernel
theorem dX11_partedWithout_63 : decode cX11_partedWithout 63 = .ok (.iload_n 2, 1) := by decide +kernel
theorem dX11_partedWithout_64 : decode cX11_partedWithout 64 = .ok (.ireturn, 1) := by decide +kernel
theorem dX11_dearestWay_0 : decode cX11_dearestWay 0 = .ok (.aload_n 0, 1) := by decide +kernel
theorem dX11_dearestWay_1 : decode cX11_dearestWay 1 = .ok (.iconst 0, 1) := by decide +kernel
theorem dX11_dearestWay_2 : decode cX11_dearestWay 2 = .ok (.putfield 78, 3) := by decide +kernel
theorem dX11_dearestWay_5 : decode cX11_dearestWay 5 = .ok (.iconst (-1), 1) := by decide +kernel
theorem dX11_dearestWay_6 : decode cX11_dearestWay 6 = .ok (.istore_n 1, 1) := by decide +kernel
theorem dX11_dearestWay_7 : decode cX11_dearestWay 7 = .ok (.iconst (-1), 1) := by decide +kernel
theorem dX11_dearestWay_8 : decode cX11_dearestWay 8 = .ok (.istore_n 2, 1) := by decide +kernel
theorem dX11_dearestWay_9 : decode cX11_dearestWay 9 = .ok (.iconst 0, 1) := by decide +kernel
theorem dX11_dearestWay_10 : decode cX11_dearestWay 10 = .ok (.istore_n 3, 1) := by decide +kernel
theorem dX11_dearestWay_11 : decode cX11_dearestWay 11 = .ok (.iload_n 3, 1) := by decide +kernel
theorem dX11_dearestWay_12 : decode cX11_dearestWay 12 = .ok (.aload_n 0, 1) := by decide +kernel
theorem dX11_dearestWay_13 : decode cX11_dearestWay 13 = .ok (.getfield 9, 3) := by decide +kernel
theorem dX11_dearestWay_16 : decode cX11_dearestWay 16 = .ok (.iconst 1, 1) := by decide +kernel
theorem dX11_dearestWay_17 : decode cX11_dearestWay 17 = .ok (.iaload, 1) := by decide +kernel
theorem dX11_dearestWay_18 : decode cX11_dearestWay 18 = .ok (.if_icmp .ge 27, 3) := by decide +kernel
theorem dX11_dearestWay_21 : decode cX11_dearestWay 21 = .ok (.aload_n 0, 1) := by decide +kernel
theorem dX11_dearestWay_22 : decode cX11_dearestWay 22 = .ok (.iload_n 3, 1) := by decide +kernel
theorem dX11_dearestWay_23 : decode cX11_dearestWay 23 = .ok (.invokevirtual 417, 3) := by decide +kernel
theorem dX11_dearestWay_26 : decode cX11_dearestWay 26 = .ok (.istore 4, 2) := by decide +kernel
theorem dX11_dearestWay_28 : decode cX11_dearestWay 28 = .ok (.iload 4, 2) := by decide +kernel
theorem dX11_dearestWay_30 : decode cX11_dearestWay 30 = .ok (.iload_n 2, 1) := by decide +kernel
theorem dX11_dearestWay_31 : decode cX11_dearestWay 31 = .ok (.if_icmp .le 8, 3) := by decide +kernel
theorem dX11_dearestWay_34 : decode cX11_dearestWay 34 = .ok (.iload_n 3, 1) := by decide +kernel
theorem dX11_dearestWay_35 : decode cX11_dearestWay 35 = .ok (.istore_n 1, 1) := by decide +kernel
theorem dX11_dearestWay_36 : decode cX11_dearestWay 36 = .ok (.iload 4, 2) := by decide +kernel
theorem dX11_dearestWay_38 : decode cX11_dearestWay 38 = .ok (.istore_n 2, 1) := by decide +kernel
theorem dX11_dearestWay_39 : decode cX11_dearestWay 39 = .ok (.iinc 3 1, 3) := by decide +kernel
theorem dX11_dearestWay_42 : decode cX11_dearestWay 42 = .ok (.goto (-31), 3) := by decide +kernel
theorem dX11_dearestWay_45 : decode cX11_dearestWay 45 = .ok (.iload_n 1, 1) := by decide +kernel
theorem dX11_dearestWay_46 : decode cX11_dearestWay 46 = .ok (.ireturn, 1) := by decide +kernel
theorem dX11_nearestOpen_0 : decode cX11_nearestOpen 0 = .ok (.iconst (-1), 1) := by decide +kernel
theorem dX11_nearestOpen_1 : decode cX11_nearestOpen 1 = .ok (.istore_n 1, 1) := by decide +kernel
theorem dX11_nearestOpen_2 : decode cX11_nearestOpen 2 = .ok (.iconst 0, 1) := by decide +kernel
theorem dX11_nearestOpen_3 : decode cX11_nearestOpen 3 = .ok (.istore_n 2, 1) := by decide +kernel
theorem dX11_nearestOpen_4 : decode cX11_nearestOpen 4 = .ok (.iload_n 2, 1) := by decide +kernel
theorem dX11_nearestOpen_5 : decode cX11_nearestOpen 5 = .ok (.aload_n 0, 1) := by decide +kernel
theorem dX11_nearestOpen_6 : decode cX11_nearestOpen 6 = .ok (.getfield 9, 3) := by decide +kernel
theorem dX11_nearestOpen_9 : decode cX11_nearestOpen 9 = .ok (.iconst 0, 1) := by decide +kernel
theorem dX11_nearestOpen_10 : decode cX11_nearestOpen 10 = .ok (.iaload, 1) := by decide +kernel
theorem dX11_nearestOpen_11 : decode cX11_nearestOpen 11 = .ok (.if_icmp .ge 50, 3) := by decide +kernel
theorem dX11_nearestOpen_14 : decode cX11_nearestOpen 14 = .ok (.aload_n 0, 1) := by decide +kernel
theorem dX11_nearestOpen_15 : decode cX11_nearestOpen 15 = .ok (.getfield 45, 3) := by decide +kernel
theorem dX11_nearestOpen_18 : decode cX11_nearestOpen 18 = .ok (.iload_n 2, 1) := by decide +kernel
theorem dX11_nearestOpen_19 : decode cX11_nearestOpen 19 = .ok (.baload, 1) := by decide +kernel
theorem dX11_nearestOpen_20 : decode cX11_nearestOpen 20 = .ok (.ifCond .ne 35, 3) := by decide +kernel
theorem dX11_nearestOpen_23 : decode cX11_nearestOpen 23 = .ok (.aload_n 0, 1) := by decide +kernel
theorem dX11_nearestOpen_24 : decode cX11_nearestOpen 24 = .ok (.getfield 42, 3) := by decide +kernel
theorem dX11_nearestOpen_27 : decode cX11_nearestOpen 27 = .ok (.iload_n 2, 1) := by decide +kernel
theorem dX11_nearestOpen_28 : decode cX11_nearestOpen 28 = .ok (.iaload, 1) := by decide +kernel
theorem dX11_nearestOpen_29 : decode cX11_nearestOpen 29 = .ok (.iconst (-1), 1) := by decide +kernel
theorem dX11_nearestOpen_30 : decode cX11_nearestOpen 30 = .ok (.if_icmp .eq 25, 3) := by decide +kernel
theorem dX11_nearestOpen_33 : decode cX11_nearestOpen 33 = .ok (.iload_n 1, 1) := by decide +kernel
theorem dX11_nearestOpen_34 : decode cX11_nearestOpen 34 = .ok (.iconst (-1), 1) := by decide +kernel
theorem dX11_nearestOpen_35 : decode cX11_nearestOpen 35 = .ok (.if_icmp .eq 18, 3) := by decide +kernel
theorem dX11_nearestOpen_38 : decode cX11_nearestOpen 38 = .ok (.aload_n 0, 1) := by decide +kernel
theorem dX11_nearestOpen_39 : decode cX11_nearestOpen 39 = .ok (.getfield 42, 3) := by decide +kernel
theorem dX11_nearestOpen_42 : decode cX11_nearestOpen 42 = .ok (.iload_n 2, 1) := by decide +kernel
theorem dX11_nearestOpen_43 : decode cX11_nearestOpen 43 = .ok (.iaload, 1) := by decide +kernel
theorem dX11_nearestOpen_44 : decode cX11_nearestOpen 44 = .ok (.aload_n 0, 1) := by decide +kernel
theorem dX11_nearestOpen_45 : decode cX11_nearestOpen 45 = .ok (.getfield 42, 3) := by decide +kernel
theorem dX11_nearestOpen_48 : decode cX11_nearestOpen 48 = .ok (.iload_n 1, 1) := by decide +kernel
theorem dX11_nearestOpen_49 : decode cX11_nearestOpen 49 = .ok (.iaload, 1) := by decide +kernel
theorem dX11_nearestOpen_50 : decode cX11_nearestOpen 50 = .ok (.if_icmp .ge 5, 3) := by decide +kernel
theorem dX11_nearestOpen_53 : decode cX11_nearestOpen 53 = .ok (.iload_n 2, 1) := by decide +kernel
theorem dX11_nearestOpen_54 : decode cX11_nearestOpen 54 = .ok (.istore_n 1, 1) := by decide +kernel
theorem dX11_nearestOpen_55 : decode cX11_nearestOpen 55 = .ok (.iinc 2 1, 3) := by decide +kernel
theorem dX11_nearestOpen_58 : decode cX11_nearestOpen 58 = .ok (.goto (-54), 3) := by decide +kernel
theorem dX11_nearestOpen_61 : decode cX11_nearestOpen 61 = .ok (.iload_n 1, 1) := by decide +kernel
theorem dX11_nearestOpen_62 : decode cX11_nearestOpen 62 = .ok (.ireturn, 1) := by decide +kernel
theorem dX11_goesOut_0 : decode cX11_goesOut 0 = .ok (.iconst 0, 1) := by decide +kernel
theorem dX11_goesOut_1 : decode cX11_goesOut 1 = .ok (.istore_n 2, 1) := by decide +kernel
theorem dX11_goesOut_2 : decode cX11_goesOut 2 = .ok (.iload_n 2, 1) := by decide +kernel
theorem dX11_goesOut_3 : decode cX11_goesOut 3 = .ok (.bipush 10, 2) := by decide +kernel
theorem dX11_goesOut_5 : decode cX11_goesOut 5 = .ok (.if_icmp .ge 32, 3) := by decide +kernel
theorem dX11_goesOut_8 : decode cX11_goesOut 8 = .ok (.aload_n 0, 1) := by decide +kernel
theorem dX11_goesOut_9 : decode cX11_goesOut 9 = .ok (.getfield 42, 3) := by decide +kernel
theorem dX11_goesOut_12 : decode cX11_goesOut 12 = .ok (.iload_n 2, 1) := by decide +kernel
theorem dX11_goesOut_13 : decode cX11_goesOut 13 = .ok (.iload_n 2, 1) := by decide +kernel
theorem dX11_goesOut_14 : decode cX11_goesOut 14 = .ok (.iload_n 1, 1) := by decide +kernel
theorem dX11_goesOut_15 : decode cX11_goesOut 15 = .ok (.if_icmp .ne 7, 3) := by decide +kernel
theorem dX11_goesOut_18 : decode cX11_goesOut 18 = .ok (.iconst 0, 1) := by decide +kernel
theorem dX11_goesOut_19 : decode cX11_goesOut 19 = .ok (.goto 4, 3) := by decide +kernel
theorem dX11_goesOut_22 : decode cX11_goesOut 22 = .ok (.iconst (-1), 1) := by decide +kernel
theorem dX11_goesOut_23 : decode cX11_goesOut 23 = .ok (.iastore, 1) := by decide +kernel
theorem dX11_goesOut_24 : decode cX11_goesOut 24 = .ok (.aload_n 0, 1) := by decide +kernel
theorem dX11_goesOut_25 : decode cX11_goesOut 25 = .ok (.getfield 45, 3) := by decide +kernel
theorem dX11_goesOut_28 : decode cX11_goesOut 28 = .ok (.iload_n 2, 1) := by decide +kernel
theorem dX11_goesOut_29 : decode cX11_goesOut 29 = .ok (.iconst 0, 1) := by decide +kernel
theorem dX11_goesOut_30 : decode cX11_goesOut 30 = .ok (.bastore, 1) := by decide +kernel
theorem dX11_goesOut_31 : decode cX11_goesOut 31 = .ok (.iinc 2 1, 3) := by decide +kernel
theorem dX11_goesOut_34 : decode cX11_goesOut 34 = .ok (.goto (-32), 3) := by decide +kernel
theorem dX11_goesOut_37 : decode cX11_goesOut 37 = .ok (.aload_n 0, 1) := by decide +kernel
theorem dX11_goesOut_38 : decode cX11_goesOut 38 = .ok (.invokevirtual 420, 3) := by decide +kernel
theorem dX11_goesOut_41 : decode cX11_goesOut 41 = .ok (.istore_n 2, 1) := by decide +kernel
theorem dX11_goesOut_42 : decode cX11_goesOut 42 = .ok (.iload_n 2, 1) := by decide +kernel
theorem dX11_goesOut_43 : decode cX11_goesOut 43 = .ok (.iconst (-1), 1) := by decide +kernel
theorem dX11_goesOut_44 : decode cX11_goesOut 44 = .ok (.if_icmp .eq 111, 3) := by decide +kernel
theorem dX11_goesOut_47 : decode cX11_goesOut 47 = .ok (.aload_n 0, 1) := by decide +kernel
theorem dX11_goesOut_48 : decode cX11_goesOut 48 = .ok (.getfield 45, 3) := by decide +kernel
theorem dX11_goesOut_51 : decode cX11_goesOut 51 = .ok (.iload_n 2, 1) := by decide +kernel
theorem dX11_goesOut_52 : decode cX11_goesOut 52 = .ok (.iconst 1, 1) := by decide +kernel
theorem dX11_goesOut_53 : decode cX11_goesOut 53 = .ok (.bastore, 1) := by decide +kernel
theorem dX11_goesOut_54 : decode cX11_goesOut 54 = .ok (.iconst 0, 1) := by decide +kernel
theorem dX11_goesOut_55 : decode cX11_goesOut 55 = .ok (.istore_n 3, 1) := by decide +kernel
theorem dX11_goesOut_56 : decode cX11_goesOut 56 = .ok (.iload_n 3, 1) := by decide +kernel
theorem dX11_goesOut_57 : decode cX11_goesOut 57 = .ok (.aload_n 0, 1) := by decide +kernel
theorem dX11_goesOut_58 : decode cX11_goesOut 58 = .ok (.getfield 9, 3) := by decide +kernel
theorem dX11_goesOut_61 : decode cX11_goesOut 61 = .ok (.iconst 1, 1) := by decide +kernel
theorem dX11_goesOut_62 : decode cX11_goesOut 62 = .ok (.iaload, 1) := by decide +kernel
theorem dX11_goesOut_63 : decode cX11_goesOut 63 = .ok (.if_icmp .ge 84, 3) := by decide +kernel
theorem dX11_goesOut_66 : decode cX11_goesOut 66 = .ok (.aload_n 0, 1) := by decide +kernel
theorem dX11_goesOut_67 : decode cX11_goesOut 67 = .ok (.iload_n 3, 1) := by decide +kernel
theorem dX11_goesOut_68 : decode cX11_goesOut 68 = .ok (.iload_n 2, 1) := by decide +kernel
theorem dX11_goesOut_69 : decode cX11_goesOut 69 = .ok (.invokevirtual 91, 3) := by decide +kernel
theorem dX11_goesOut_72 : decode cX11_goesOut 72 = .ok (.ifCond .ne 6, 3) := by decide +kernel
theorem dX11_goesOut_75 : decode cX11_goesOut 75 = .ok (.goto 66, 3) := by decide +kernel
theorem dX11_goesOut_78 : decode cX11_goesOut 78 = .ok (.aload_n 0, 1) := by decide +kernel
theorem dX11_goesOut_79 : decode cX11_goesOut 79 = .ok (.iload_n 3, 1) := by decide +kernel
theorem dX11_goesOut_80 : decode cX11_goesOut 80 = .ok (.iload_n 2, 1) := by decide +kernel
theorem dX11_goesOut_81 : decode cX11_goesOut 81 = .ok (.invokevirtual 95, 3) := by decide +kernel
theorem dX11_goesOut_84 : decode cX11_goesOut 84 = .ok (.istore 4, 2) := by decide +kernel
theorem dX11_goesOut_86 : decode cX11_goesOut 86 = .ok (.aload_n 0, 1) := by decide +kernel
theorem dX11_goesOut_87 : decode cX11_goesOut 87 = .ok (.getfield 42, 3) := by decide +kernel
theorem dX11_goesOut_90 : decode cX11_goesOut 90 = .ok (.iload_n 2, 1) := by decide +kernel
theorem dX11_goesOut_91 : decode cX11_goesOut 91 = .ok (.iaload, 1) := by decide +kernel
theorem dX11_goesOut_92 : decode cX11_goesOut 92 = .ok (.aload_n 0, 1) := by decide +kernel
theorem dX11_goesOut_93 : decode cX11_goesOut 93 = .ok (.getfield 9, 3) := by decide +kernel
theorem dX11_goesOut_96 : decode cX11_goesOut 96 = .ok (.iload_n 3, 1) := by decide +kernel
theorem dX11_goesOut_97 : decode cX11_goesOut 97 = .ok (.invokestatic 88, 3) := by decide +kernel
theorem dX11_goesOut_100 : decode cX11_goesOut 100 = .ok (.iconst 2, 1) := by decide +kernel
theorem dX11_goesOut_101 : decode cX11_goesOut 101 = .ok (.iadd, 1) := by decide +kernel
theorem dX11_goesOut_102 : decode cX11_goesOut 102 = .ok (.iaload, 1) := by decide +kernel
theorem dX11_goesOut_103 : decode cX11_goesOut 103 = .ok (.iadd, 1) := by decide +kernel
theorem dX11_goesOut_104 : decode cX11_goesOut 104 = .ok (.istore 5, 2) := by decide +kernel
theorem dX11_goesOut_106 : decode cX11_goesOut 106 = .ok (.aload_n 0, 1) := by decide +kernel
theorem dX11_goesOut_107 : decode cX11_goesOut 107 = .ok (.getfield 42, 3) := by decide +kernel
theorem dX11_goesOut_110 : decode cX11_goesOut 110 = .ok (.iload 4, 2) := by decide +kernel
theorem dX11_goesOut_112 : decode cX11_goesOut 112 = .ok (.aload_n 0, 1) := by decide +kernel
theorem dX11_goesOut_113 : decode cX11_goesOut 113 = .ok (.getfield 42, 3) := by decide +kernel
theorem dX11_goesOut_116 : decode cX11_goesOut 116 = .ok (.iload 4, 2) := by decide +kernel
theorem dX11_goesOut_118 : decode cX11_goesOut 118 = .ok (.iaload, 1) := by decide +kernel
theorem dX11_goesOut_119 : decode cX11_goesOut 119 = .ok (.iconst (-1), 1) := by decide +kernel
theorem dX11_goesOut_120 : decode cX11_goesOut 120 = .ok (.if_icmp .ne 8, 3) := by decide +kernel
theorem dX11_goesOut_123 : decode cX11_goesOut 123 = .ok (.iload 5, 2) := by decide +kernel
theorem dX11_goesOut_125 : decode cX11_goesOut 125 = .ok (.goto 15, 3) := by decide +kernel
theorem dX11_goesOut_128 : decode cX11_goesOut 128 = .ok (.aload_n 0, 1) := by decide +kernel
theorem dX11_goesOut_129 : decode cX11_goesOut 129 = .ok (.getfield 42, 3) := by decide +kernel
theorem dX11_goesOut_132 : decode cX11_goesOut 132 = .ok (.iload 4, 2) := by decide +kernel
theorem dX11_goesOut_134 : decode cX11_goesOut 134 = .ok (.iaload, 1) := by decide +kernel
theorem dX11_goesOut_135 : decode cX11_goesOut 135 = .ok (.iload 5, 2) := by decide +kernel
theorem dX11_goesOut_137 : decode cX11_goesOut 137 = .ok (.invokestatic 134, 3) := by decide +kernel
theorem dX11_goesOut_140 : decode cX11_goesOut 140 = .ok (.iastore, 1) := by decide +kernel
theorem dX11_goesOut_141 : decode cX11_goesOut 141 = .ok (.iinc 3 1, 3) := by decide +kernel
theorem dX11_goesOut_144 : decode cX11_goesOut 144 = .ok (.goto (-88), 3) := by decide +kernel
theorem dX11_goesOut_147 : decode cX11_goesOut 147 = .ok (.aload_n 0, 1) := by decide +kernel
theorem dX11_goesOut_148 : decode cX11_goesOut 148 = .ok (.invokevirtual 420, 3) := by decide +kernel
theorem dX11_goesOut_151 : decode cX11_goesOut 151 = .ok (.istore_n 2, 1) := by decide +kernel
theorem dX11_goesOut_152 : decode cX11_goesOut 152 = .ok (.goto (-110), 3) := by decide +kernel
theorem dX11_goesOut_155 : decode cX11_goesOut 155 = .ok (.return_, 1) := by decide +kernel
theorem dX11_areRoutes_0 : decode cX11_areRoutes 0 = .ok (.iconst 0, 1) := by decide +kernel
theorem dX11_areRoutes_1 : decode cX11_areRoutes 1 = .ok (.istore_n 1, 1) := by decide +kernel
theorem dX11_areRoutes_2 : decode cX11_areRoutes 2 = .ok (.iload_n 1, 1) := by decide +kernel
theorem dX11_areRoutes_3 : decode cX11_areRoutes 3 = .ok (.aload_n 0, 1) := by decide +kernel
theorem dX11_areRoutes_4 : decode cX11_areRoutes 4 = .ok (.getfield 9, 3) := by decide +kernel
theorem dX11_areRoutes_7 : decode cX11_areRoutes 7 = .ok (.iconst 0, 1) := by decide +kernel
theorem dX11_areRoutes_8 : decode cX11_areRoutes 8 = .ok (.iaload, 1) := by decide +kernel
theorem dX11_areRoutes_9 : decode cX11_areRoutes 9 = .ok (.if_icmp .ge 55, 3) := by decide +kernel
theorem dX11_areRoutes_12 : decode cX11_areRoutes 12 = .ok (.aload_n 0, 1) := by decide +kernel
theorem dX11_areRoutes_13 : decode cX11_areRoutes 13 = .ok (.iload_n 1, 1) := by decide +kernel
theorem dX11_areRoutes_14 : decode cX11_areRoutes 14 = .ok (.invokevirtual 423, 3) := by decide +kernel
theorem dX11_areRoutes_17 : decode cX11_areRoutes 17 = .ok (.aload_n 0, 1) := by decide +kernel
theorem dX11_areRoutes_18 : decode cX11_areRoutes 18 = .ok (.iload_n 1, 1) := by decide +kernel
theorem dX11_areRoutes_19 : decode cX11_areRoutes 19 = .ok (.iconst (-1), 1) := by decide +kernel
theorem dX11_areRoutes_20 : decode cX11_areRoutes 20 = .ok (.invokevirtual 102, 3) := by decide +kernel
theorem dX11_areRoutes_23 : decode cX11_areRoutes 23 = .ok (.iconst 0, 1) := by decide +kernel
theorem dX11_areRoutes_24 : decode cX11_areRoutes 24 = .ok (.istore_n 2, 1) := by decide +kernel
theorem dX11_areRoutes_25 : decode cX11_areRoutes 25 = .ok (.iload_n 2, 1) := by decide +kernel
theorem dX11_areRoutes_26 : decode cX11_areRoutes 26 = .ok (.aload_n 0, 1) := by decide +kernel
theorem dX11_areRoutes_27 : decode cX11_areRoutes 27 = .ok (.getfield 9, 3) := by decide +kernel
theorem dX11_areRoutes_30 : decode cX11_areRoutes 30 = .ok (.iconst 0, 1) := by decide +kernel
theorem dX11_areRoutes_31 : decode cX11_areRoutes 31 = .ok (.iaload, 1) := by decide +kernel
theorem dX11_areRoutes_32 : decode cX11_areRoutes 32 = .ok (.if_icmp .ge 26, 3) := by decide +kernel
theorem dX11_areRoutes_35 : decode cX11_areRoutes 35 = .ok (.aload_n 0, 1) := by decide +kernel
theorem dX11_areRoutes_36 : decode cX11_areRoutes 36 = .ok (.getfield 42, 3) := by decide +kernel
theorem dX11_areRoutes_39 : decode cX11_areRoutes 39 = .ok (.iload_n 2, 1) := by decide +kernel
theorem dX11_areRoutes_40 : decode cX11_areRoutes 40 = .ok (.iaload, 1) := by decide +kernel
theorem dX11_areRoutes_41 : decode cX11_areRoutes 41 = .ok (.aload_n 0, 1) := by decide +kernel
theorem dX11_areRoutes_42 : decode cX11_areRoutes 42 = .ok (.getfield 25, 3) := by decide +kernel
theorem dX11_areRoutes_45 : decode cX11_areRoutes 45 = .ok (.iload_n 2, 1) := by decide +kernel
theorem dX11_areRoutes_46 : decode cX11_areRoutes 46 = .ok (.iaload, 1) := by decide +kernel
theorem dX11_areRoutes_47 : decode cX11_areRoutes 47 = .ok (.if_icmp .eq 5, 3) := by decide +kernel
theorem dX11_areRoutes_50 : decode cX11_areRoutes 50 = .ok (.iconst 0, 1) := by decide +kernel
theorem dX11_areRoutes_51 : decode cX11_areRoutes 51 = .ok (.ireturn, 1) := by decide +kernel
theorem dX11_areRoutes_52 : decode cX11_areRoutes 52 = .ok (.iinc 2 1, 3) := by decide +kernel
theorem dX11_areRoutes_55 : decode cX11_areRoutes 55 = .ok (.goto (-30), 3) := by decide +kernel
theorem dX11_areRoutes_58 : decode cX11_areRoutes 58 = .ok (.iinc 1 1, 3) := by decide +kernel
theorem dX11_areRoutes_61 : decode cX11_areRoutes 61 = .ok (.goto (-59), 3) := by decide +kernel
theorem dX11_areRoutes_64 : decode cX11_areRoutes 64 = .ok (.iconst 1, 1) := by decide +kernel
theorem dX11_areRoutes_65 : decode cX11_areRoutes 65 = .ok (.ireturn, 1) := by decide +kernel
theorem dX11_areTunes_0 : decode cX11_areTunes 0 = .ok (.iconst 0, 1) := by decide +kernel
theorem dX11_areTunes_1 : decode cX11_areTunes 1 = .ok (.istore_n 1, 1) := by decide +kernel
theorem dX11_areTunes_2 : decode cX11_areTunes 2 = .ok (.iconst 0, 1) := by decide +kernel
theorem dX11_areTunes_3 : decode cX11_areTunes 3 = .ok (.istore_n 2, 1) := by decide +kernel
theorem dX11_areTunes_4 : decode cX11_areTunes 4 = .ok (.iload_n 2, 1) := by decide +kernel
theorem dX11_areTunes_5 : decode cX11_areTunes 5 = .ok (.aload_n 0, 1) := by decide +kernel
theorem dX11_areTunes_6 : decode cX11_areTunes 6 = .ok (.getfield 9, 3) := by decide +kernel
theorem dX11_areTunes_9 : decode cX11_areTunes 9 = .ok (.iconst 2, 1) := by decide +kernel
theorem dX11_areTunes_10 : decode cX11_areTunes 10 = .ok (.iaload, 1) := by decide +kernel
theorem dX11_areTunes_11 : decode cX11_areTunes 11 = .ok (.if_icmp .ge 74, 3) := by decide +kernel
theorem dX11_areTunes_14 : decode cX11_areTunes 14 = .ok (.iload_n 2, 1) := by decide +kernel
theorem dX11_areTunes_15 : decode cX11_areTunes 15 = .ok (.invokestatic 109, 3) := by decide +kernel
theorem dX11_areTunes_18 : decode cX11_areTunes 18 = .ok (.istore_n 3, 1) := by decide +kernel
theorem dX11_areTunes_19 : decode cX11_areTunes 19 = .ok (.iload_n 1, 1) := by decide +kernel
theorem dX11_areTunes_20 : decode cX11_areTunes 20 = .ok (.aload_n 0, 1) := by decide +kernel
theorem dX11_areTunes_21 : decode cX11_areTunes 21 = .ok (.getfield 9, 3) := by decide +kernel
theorem dX11_areTunes_24 : decode cX11_areTunes 24 = .ok (.iload_n 3, 1) := by decide +kernel
theorem dX11_areTunes_25 : decode cX11_areTunes 25 = .ok (.bipush 9, 2) := by decide +kernel
theorem dX11_areTunes_27 : decode cX11_areTunes 27 = .ok (.iadd, 1) := by decide +kernel
theorem dX11_areTunes_28 : decode cX11_areTunes 28 = .ok (.iaload, 1) := by decide +kernel
theorem dX11_areTunes_29 : decode cX11_areTunes 29 = .ok (.iadd, 1) := by decide +kernel
theorem dX11_areTunes_30 : decode cX11_areTunes 30 = .ok (.istore_n 1, 1) := by decide +kernel
theorem dX11_areTunes_31 : decode cX11_areTunes 31 = .ok (.aload_n 0, 1) := by decide +kernel
theorem dX11_areTunes_32 : decode cX11_areTunes 32 = .ok (.aload_n 0, 1) := by decide +kernel
theorem dX11_areTunes_33 : decode cX11_areTunes 33 = .ok (.getfield 9, 3) := by decide +kernel
theorem dX11_areTunes_36 : decode cX11_areTunes 36 = .ok (.iload_n 3, 1) := by decide +kernel
theorem dX11_areTunes_37 : decode cX11_areTunes 37 = .ok (.iconst 4, 1) := by decide +kernel
theorem dX11_areTunes_38 : decode cX11_areTunes 38 = .ok (.iadd, 1) := by decide +kernel
theorem dX11_areTunes_39 : decode cX11_areTunes 39 = .ok (.iaload, 1) := by decide +kernel
theorem dX11_areTunes_40 : decode cX11_areTunes 40 = .ok (.invokevirtual 380, 3) := by decide +kernel
theorem dX11_areTunes_43 : decode cX11_areTunes 43 = .ok (.ifCond .eq 34, 3) := by decide +kernel
theorem dX11_areTunes_46 : decode cX11_areTunes 46 = .ok (.aload_n 0, 1) := by decide +kernel
theorem dX11_areTunes_47 : decode cX11_areTunes 47 = .ok (.getfield 9, 3) := by decide +kernel
theorem dX11_areTunes_50 : decode cX11_areTunes 50 = .ok (.iload_n 3, 1) := by decide +kernel
theorem dX11_areTunes_51 : decode cX11_areTunes 51 = .ok (.iconst 3, 1) := by decide +kernel
theorem dX11_areTunes_52 : decode cX11_areTunes 52 = .ok (.iadd, 1) := by decide +kernel
theorem dX11_areTunes_53 : decode cX11_areTunes 53 = .ok (.iaload, 1) := by decide +kernel
theorem dX11_areTunes_54 : decode cX11_areTunes 54 = .ok (.iconst 2, 1) := by decide +kernel
theorem dX11_areTunes_55 : decode cX11_areTunes 55 = .ok (.if_icmp .ne 24, 3) := by decide +kernel
theorem dX11_areTunes_58 : decode cX11_areTunes 58 = .ok (.aload_n 0, 1) := by decide +kernel
theorem dX11_areTunes_59 : decode cX11_areTunes 59 = .ok (.getfield 9, 3) := by decide +kernel
theorem dX11_areTunes_62 : decode cX11_areTunes 62 = .ok (.iload_n 3, 1) := by decide +kernel
theorem dX11_areTunes_63 : decode cX11_areTunes 63 = .ok (.iconst 4, 1) := by decide +kernel
theorem dX11_areTunes_64 : decode cX11_areTunes 64 = .ok (.iadd, 1) := by decide +kernel
theorem dX11_areTunes_65 : decode cX11_areTunes 65 = .ok (.iaload, 1) := by decide +kernel
theorem dX11_areTunes_66 : decode cX11_areTunes 66 = .ok (.aload_n 0, 1) := by decide +kernel
theorem dX11_areTunes_67 : decode cX11_areTunes 67 = .ok (.getfield 9, 3) := by decide +kernel
theorem dX11_areTunes_70 : decode cX11_areTunes 70 = .ok (.iload_n 3, 1) := by decide +kernel
theorem dX11_areTunes_71 : decode cX11_areTunes 71 = .ok (.iconst 1, 1) := by decide +kernel
theorem dX11_areTunes_72 : decode cX11_areTunes 72 = .ok (.iadd, 1) := by decide +kernel
theorem dX11_areTunes_73 : decode cX11_areTunes 73 = .ok (.iaload, 1) := by decide +kernel
theorem dX11_areTunes_74 : decode cX11_areTunes 74 = .ok (.if_icmp .eq 5, 3) := by decide +kernel
theorem dX11_areTunes_77 : decode cX11_areTunes 77 = .ok (.iconst 0, 1) := by decide +kernel
theorem dX11_areTunes_78 : decode cX11_areTunes 78 = .ok (.ireturn, 1) := by decide +kernel
theorem dX11_areTunes_79 : decode cX11_areTunes 79 = .ok (.iinc 2 1, 3) := by decide +kernel
theorem dX11_areTunes_82 : decode cX11_areTunes 82 = .ok (.goto (-78), 3) := by decide +kernel
theorem dX11_areTunes_85 : decode cX11_areTunes 85 = .ok (.iload_n 1, 1) := by decide +kernel
theorem dX11_areTunes_86 : decode cX11_areTunes 86 = .ok (.aload_n 0, 1) := by decide +kernel
theorem dX11_areTunes_87 : decode cX11_areTunes 87 = .ok (.getfield 9, 3) := by decide +kernel
theorem dX11_areTunes_90 : decode cX11_areTunes 90 = .ok (.bipush 13, 2) := by decide +kernel
theorem dX11_areTunes_92 : decode cX11_areTunes 92 = .ok (.iaload, 1) := by decide +kernel
theorem dX11_areTunes_93 : decode cX11_areTunes 93 = .ok (.if_icmp .ne 7, 3) := by decide +kernel
theorem dX11_areTunes_96 : decode cX11_areTunes 96 = .ok (.iconst 1, 1) := by decide +kernel
theorem dX11_areTunes_97 : decode cX11_areTunes 97 = .ok (.goto 4, 3) := by decide +kernel
theorem dX11_areTunes_100 : decode cX11_areTunes 100 = .ok (.iconst 0, 1) := by decide +kernel
theorem dX11_areTunes_101 : decode cX11_areTunes 101 = .ok (.ireturn, 1) := by decide +kernel
theorem dX11_agree_0 : decode cX11_agree 0 = .ok (.aload_n 0, 1) := by decide +kernel
theorem dX11_agree_1 : decode cX11_agree 1 = .ok (.iconst 0, 1) := by decide +kernel
theorem dX11_agree_2 : decode cX11_agree 2 = .ok (.putfield 78, 3) := by decide +kernel
theorem dX11_agree_5 : decode cX11_agree 5 = .ok (.aload_n 0, 1) := by decide +kernel
theorem dX11_agree_6 : decode cX11_agree 6 = .ok (.getfield 9, 3) := by decide +kernel
theorem dX11_agree_9 : decode cX11_agree 9 = .ok (.bipush 11, 2) := by decide +kernel
theorem dX11_agree_11 : decode cX11_agree 11 = .ok (.iaload, 1) := by decide +kernel
theorem dX11_agree_12 : decode cX11_agree 12 = .ok (.aload_n 0, 1) := by decide +kernel
theorem dX11_agree_13 : decode cX11_agree 13 = .ok (.getfield 9, 3) := by decide +kernel
theorem dX11_agree_16 : decode cX11_agree 16 = .ok (.iconst 2, 1) := by decide +kernel
theorem dX11_agree_17 : decode cX11_agree 17 = .ok (.iaload, 1) := by decide +kernel
